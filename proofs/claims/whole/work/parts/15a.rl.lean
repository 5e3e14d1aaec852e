theorem pl_L_feed : (am_pg z_L_feed).1 = 6 := rfl
theorem pm_L_feed : (am_pg z_L_feed).2 = am_at rw_L_feed := rfl
theorem pl_L_calendar : (am_pg z_L_calendar).1 = 3 := rfl
theorem pm_L_calendar : (am_pg z_L_calendar).2 = am_at rw_L_calendar := rfl
theorem pl_L_stay : (am_pg z_L_stay).1 = 4 := rfl
theorem pm_L_stay : (am_pg z_L_stay).2 = am_at rw_L_stay := rfl
theorem pl_L_home : (am_pg z_L_home).1 = 7 := rfl
theorem pm_L_home : (am_pg z_L_home).2 = am_at rw_L_home := rfl
theorem pl_L_centre : (am_pg z_L_centre).1 = 4 := rfl
theorem pm_L_centre : (am_pg z_L_centre).2 = am_at rw_L_centre := rfl
theorem pl_L_nation : (am_pg z_L_nation).1 = 3 := rfl
theorem pm_L_nation : (am_pg z_L_nation).2 = am_at rw_L_nation := rfl
theorem pl_L_drawn : (am_pg z_L_drawn).1 = 9 := rfl
theorem pm_L_drawn : (am_pg z_L_drawn).2 = am_at rw_L_drawn := rfl
theorem pl_L_at : (am_pg z_L_at).1 = 4 := rfl
theorem pm_L_at : (am_pg z_L_at).2 = am_at rw_L_at := rfl
theorem pl_L_letter : (am_pg z_L_letter).1 = 2 := rfl
theorem pm_L_letter : (am_pg z_L_letter).2 = am_at rw_L_letter := rfl
theorem pl_L_window : (am_pg z_L_window).1 = 5 := rfl
theorem pm_L_window : (am_pg z_L_window).2 = am_at rw_L_window := rfl
theorem pl_L_rule : (am_pg z_L_rule).1 = 5 := rfl
theorem pm_L_rule : (am_pg z_L_rule).2 = am_at rw_L_rule := rfl
theorem pl_L_order : (am_pg z_L_order).1 = 4 := rfl
theorem pm_L_order : (am_pg z_L_order).2 = am_at rw_L_order := rfl
theorem pl_L_entries : (am_pg z_L_entries).1 = 4 := rfl
theorem pm_L_entries : (am_pg z_L_entries).2 = am_at rw_L_entries := rfl
theorem pl_L_entered : (am_pg z_L_entered).1 = 8 := rfl
theorem pm_L_entered : (am_pg z_L_entered).2 = am_at rw_L_entered := rfl
theorem pl_L_treaty : (am_pg z_L_treaty).1 = 5 := rfl
theorem pm_L_treaty : (am_pg z_L_treaty).2 = am_at rw_L_treaty := rfl
theorem pl_L_without : (am_pg z_L_without).1 = 3 := rfl
theorem pm_L_without : (am_pg z_L_without).2 = am_at rw_L_without := rfl
theorem pl_L_tax : (am_pg z_L_tax).1 = 4 := rfl
theorem pm_L_tax : (am_pg z_L_tax).2 = am_at rw_L_tax := rfl
theorem pl_L_told : (am_pg z_L_told).1 = 5 := rfl
theorem pm_L_told : (am_pg z_L_told).2 = am_at rw_L_told := rfl
theorem pl_L_days : (am_pg z_L_days).1 = 4 := rfl
theorem pm_L_days : (am_pg z_L_days).2 = am_at rw_L_days := rfl
theorem pl_L_month : (am_pg z_L_month).1 = 4 := rfl
theorem pm_L_month : (am_pg z_L_month).2 = am_at rw_L_month := rfl
theorem pl_L_within : (am_pg z_L_within).1 = 4 := rfl
theorem pm_L_within : (am_pg z_L_within).2 = am_at rw_L_within := rfl
theorem pl_L_overstays : (am_pg z_L_overstays).1 = 10 := rfl
theorem pm_L_overstays : (am_pg z_L_overstays).2 = am_at rw_L_overstays := rfl
theorem pl_L_nth : (am_pg z_L_nth).1 = 7 := rfl
theorem pm_L_nth : (am_pg z_L_nth).2 = am_at rw_L_nth := rfl
theorem pl_L_away : (am_pg z_L_away).1 = 7 := rfl
theorem pm_L_away : (am_pg z_L_away).2 = am_at rw_L_away := rfl
theorem pl_L_travels : (am_pg z_L_travels).1 = 7 := rfl
theorem pm_L_travels : (am_pg z_L_travels).2 = am_at rw_L_travels := rfl
theorem pl_L_most : (am_pg z_L_most).1 = 4 := rfl
theorem pm_L_most : (am_pg z_L_most).2 = am_at rw_L_most := rfl
theorem pl_L_tight : (am_pg z_L_tight).1 = 8 := rfl
theorem pm_L_tight : (am_pg z_L_tight).2 = am_at rw_L_tight := rfl
theorem pl_L_rank : (am_pg z_L_rank).1 = 4 := rfl
theorem pm_L_rank : (am_pg z_L_rank).2 = am_at rw_L_rank := rfl
theorem pl_L_slide : (am_pg z_L_slide).1 = 4 := rfl
theorem pm_L_slide : (am_pg z_L_slide).2 = am_at rw_L_slide := rfl
theorem pl_L_trade : (am_pg z_L_trade).1 = 8 := rfl
theorem pm_L_trade : (am_pg z_L_trade).2 = am_at rw_L_trade := rfl
theorem pl_L_erase : (am_pg z_L_erase).1 = 6 := rfl
theorem pm_L_erase : (am_pg z_L_erase).2 = am_at rw_L_erase := rfl
theorem pl_L_routes : (am_pg z_L_routes).1 = 6 := rfl
theorem pm_L_routes : (am_pg z_L_routes).2 = am_at rw_L_routes := rfl
theorem pl_L_latest : (am_pg z_L_latest).1 = 5 := rfl
theorem pm_L_latest : (am_pg z_L_latest).2 = am_at rw_L_latest := rfl
theorem pl_L_wins : (am_pg z_L_wins).1 = 4 := rfl
theorem pm_L_wins : (am_pg z_L_wins).2 = am_at rw_L_wins := rfl
theorem pl_L_partner : (am_pg z_L_partner).1 = 1 := rfl
theorem pm_L_partner : (am_pg z_L_partner).2 = am_at rw_L_partner := rfl
theorem pl_L_together : (am_pg z_L_together).1 = 10 := rfl
theorem pm_L_together : (am_pg z_L_together).2 = am_at rw_L_together := rfl
theorem pl_L_claims : (am_pg z_L_claims).1 = 2 := rfl
theorem pm_L_claims : (am_pg z_L_claims).2 = am_at rw_L_claims := rfl
theorem pl_L_holds : (am_pg z_L_holds).1 = 3 := rfl
theorem pm_L_holds : (am_pg z_L_holds).2 = am_at rw_L_holds := rfl
theorem pl_L_answers : (am_pg z_L_answers).1 = 4 := rfl
theorem pm_L_answers : (am_pg z_L_answers).2 = am_at rw_L_answers := rfl
theorem pl_L_by : (am_pg z_L_by).1 = 4 := rfl
theorem pm_L_by : (am_pg z_L_by).2 = am_at rw_L_by := rfl
theorem pl_L_lives : (am_pg z_L_lives).1 = 2 := rfl
theorem pm_L_lives : (am_pg z_L_lives).2 = am_at rw_L_lives := rfl
theorem pl_L_pairs : (am_pg z_L_pairs).1 = 7 := rfl
theorem pm_L_pairs : (am_pg z_L_pairs).2 = am_at rw_L_pairs := rfl
theorem pl_L_split : (am_pg z_L_split).1 = 6 := rfl
theorem pm_L_split : (am_pg z_L_split).2 = am_at rw_L_split := rfl
theorem pl_L_owed : (am_pg z_L_owed).1 = 2 := rfl
theorem pm_L_owed : (am_pg z_L_owed).2 = am_at rw_L_owed := rfl
theorem pl_L_free : (am_pg z_L_free).1 = 4 := rfl
theorem pm_L_free : (am_pg z_L_free).2 = am_at rw_L_free := rfl
theorem pl_L_mustLeave : (am_pg z_L_mustLeave).1 = 4 := rfl
theorem pm_L_mustLeave : (am_pg z_L_mustLeave).2 = am_at rw_L_mustLeave := rfl
theorem pl_L_mayCome : (am_pg z_L_mayCome).1 = 5 := rfl
theorem pm_L_mayCome : (am_pg z_L_mayCome).2 = am_at rw_L_mayCome := rfl
theorem pl_L_claimBy : (am_pg z_L_claimBy).1 = 5 := rfl
theorem pm_L_claimBy : (am_pg z_L_claimBy).2 = am_at rw_L_claimBy := rfl
theorem pl_L_freest : (am_pg z_L_freest).1 = 8 := rfl
theorem pm_L_freest : (am_pg z_L_freest).2 = am_at rw_L_freest := rfl
theorem pl_L_need : (am_pg z_L_need).1 = 3 := rfl
theorem pm_L_need : (am_pg z_L_need).2 = am_at rw_L_need := rfl
theorem pl_L_moved : (am_pg z_L_moved).1 = 3 := rfl
theorem pm_L_moved : (am_pg z_L_moved).2 = am_at rw_L_moved := rfl
theorem pl_L_loose : (am_pg z_L_loose).1 = 7 := rfl
theorem pm_L_loose : (am_pg z_L_loose).2 = am_at rw_L_loose := rfl
theorem pl_L_nearest : (am_pg z_L_nearest).1 = 7 := rfl
theorem pm_L_nearest : (am_pg z_L_nearest).2 = am_at rw_L_nearest := rfl
theorem pl_L_instead : (am_pg z_L_instead).1 = 7 := rfl
theorem pm_L_instead : (am_pg z_L_instead).2 = am_at rw_L_instead := rfl
theorem pl_L_trip : (am_pg z_L_trip).1 = 4 := rfl
theorem pm_L_trip : (am_pg z_L_trip).2 = am_at rw_L_trip := rfl
theorem pl_L_cheapest : (am_pg z_L_cheapest).1 = 8 := rfl
theorem pm_L_cheapest : (am_pg z_L_cheapest).2 = am_at rw_L_cheapest := rfl
theorem pl_L_count : (am_pg z_L_count).1 = 2 := rfl
theorem pm_L_count : (am_pg z_L_count).2 = am_at rw_L_count := rfl
theorem pl_L_outcome : (am_pg z_L_outcome).1 = 2 := rfl
theorem pm_L_outcome : (am_pg z_L_outcome).2 = am_at rw_L_outcome := rfl
theorem pl_L_owedAsIf : (am_pg z_L_owedAsIf).1 = 3 := rfl
theorem pm_L_owedAsIf : (am_pg z_L_owedAsIf).2 = am_at rw_L_owedAsIf := rfl
theorem pl_L_overstaysInAll : (am_pg z_L_overstaysInAll).1 = 4 := rfl
theorem pm_L_overstaysInAll : (am_pg z_L_overstaysInAll).2 = am_at rw_L_overstaysInAll := rfl
theorem pl_L_isText : (am_pg z_L_isText).1 = 2 := rfl
theorem pm_L_isText : (am_pg z_L_isText).2 = am_at rw_L_isText := rfl
theorem pl_L_isRow : (am_pg z_L_isRow).1 = 2 := rfl
theorem pm_L_isRow : (am_pg z_L_isRow).2 = am_at rw_L_isRow := rfl
theorem pl_L_isAmong : (am_pg z_L_isAmong).1 = 3 := rfl
theorem pm_L_isAmong : (am_pg z_L_isAmong).2 = am_at rw_L_isAmong := rfl
theorem pl_L_isDay : (am_pg z_L_isDay).1 = 1 := rfl
theorem pm_L_isDay : (am_pg z_L_isDay).2 = am_at rw_L_isDay := rfl
theorem pl_L_isSpan : (am_pg z_L_isSpan).1 = 2 := rfl
theorem pm_L_isSpan : (am_pg z_L_isSpan).2 = am_at rw_L_isSpan := rfl
theorem pl_L_isYear : (am_pg z_L_isYear).1 = 1 := rfl
theorem pm_L_isYear : (am_pg z_L_isYear).2 = am_at rw_L_isYear := rfl
theorem pl_L_isLand : (am_pg z_L_isLand).1 = 1 := rfl
theorem pm_L_isLand : (am_pg z_L_isLand).2 = am_at rw_L_isLand := rfl
theorem pl_L_isPlace : (am_pg z_L_isPlace).1 = 1 := rfl
theorem pm_L_isPlace : (am_pg z_L_isPlace).2 = am_at rw_L_isPlace := rfl
theorem pl_L_isPair : (am_pg z_L_isPair).1 = 2 := rfl
theorem pm_L_isPair : (am_pg z_L_isPair).2 = am_at rw_L_isPair := rfl
theorem pl_L_isSort : (am_pg z_L_isSort).1 = 1 := rfl
theorem pm_L_isSort : (am_pg z_L_isSort).2 = am_at rw_L_isSort := rfl
theorem pl_L_isOutcome : (am_pg z_L_isOutcome).1 = 1 := rfl
theorem pm_L_isOutcome : (am_pg z_L_isOutcome).2 = am_at rw_L_isOutcome := rfl
theorem pl_L_hasBit : (am_pg z_L_hasBit).1 = 2 := rfl
theorem pm_L_hasBit : (am_pg z_L_hasBit).2 = am_at rw_L_hasBit := rfl
theorem pl_L_firstOf : (am_pg z_L_firstOf).1 = 1 := rfl
theorem pm_L_firstOf : (am_pg z_L_firstOf).2 = am_at rw_L_firstOf := rfl
theorem pl_L_lastOf : (am_pg z_L_lastOf).1 = 1 := rfl
theorem pm_L_lastOf : (am_pg z_L_lastOf).2 = am_at rw_L_lastOf := rfl
theorem pl_L_yearOf : (am_pg z_L_yearOf).1 = 1 := rfl
theorem pm_L_yearOf : (am_pg z_L_yearOf).2 = am_at rw_L_yearOf := rfl
theorem pl_L_spot : (am_pg z_L_spot).1 = 2 := rfl
theorem pm_L_spot : (am_pg z_L_spot).2 = am_at rw_L_spot := rfl
theorem pl_L_nextDraw : (am_pg z_L_nextDraw).1 = 1 := rfl
theorem pm_L_nextDraw : (am_pg z_L_nextDraw).2 = am_at rw_L_nextDraw := rfl
theorem pl_L_rowLength : (am_pg z_L_rowLength).1 = 1 := rfl
theorem pm_L_rowLength : (am_pg z_L_rowLength).2 = am_at rw_L_rowLength := rfl
theorem pl_L_rowLetter : (am_pg z_L_rowLetter).1 = 2 := rfl
theorem pm_L_rowLetter : (am_pg z_L_rowLetter).2 = am_at rw_L_rowLetter := rfl
theorem pl_L_rowWith : (am_pg z_L_rowWith).1 = 2 := rfl
theorem pm_L_rowWith : (am_pg z_L_rowWith).2 = am_at rw_L_rowWith := rfl
theorem pl_M_in : (am_pg z_M_in).1 = 6 := rfl
theorem pm_M_in : (am_pg z_M_in).2 = am_at rw_M_in := rfl
theorem pl_M_isLand : (am_pg z_M_isLand).1 = 1 := rfl
theorem pm_M_isLand : (am_pg z_M_isLand).2 = am_at rw_M_isLand := rfl
theorem pl_M_isPlace : (am_pg z_M_isPlace).1 = 1 := rfl
theorem pm_M_isPlace : (am_pg z_M_isPlace).2 = am_at rw_M_isPlace := rfl
theorem pl_M_isDay : (am_pg z_M_isDay).1 = 1 := rfl
theorem pm_M_isDay : (am_pg z_M_isDay).2 = am_at rw_M_isDay := rfl
theorem pl_M_areDays : (am_pg z_M_areDays).1 = 2 := rfl
theorem pm_M_areDays : (am_pg z_M_areDays).2 = am_at rw_M_areDays := rfl
theorem pl_M_isYear : (am_pg z_M_isYear).1 = 1 := rfl
theorem pm_M_isYear : (am_pg z_M_isYear).2 = am_at rw_M_isYear := rfl
theorem pl_M_more : (am_pg z_M_more).1 = 2 := rfl
theorem pm_M_more : (am_pg z_M_more).2 = am_at rw_M_more := rfl
theorem pl_M_less : (am_pg z_M_less).1 = 2 := rfl
theorem pm_M_less : (am_pg z_M_less).2 = am_at rw_M_less := rfl
theorem pl_M_of : (am_pg z_M_of).1 = 3 := rfl
theorem pm_M_of : (am_pg z_M_of).2 = am_at rw_M_of := rfl
theorem pl_M_sets : (am_pg z_M_sets).1 = 4 := rfl
theorem pm_M_sets : (am_pg z_M_sets).2 = am_at rw_M_sets := rfl
theorem pl_M_typed4 : (am_pg z_M_typed4).1 = 3 := rfl
theorem pm_M_typed4 : (am_pg z_M_typed4).2 = am_at rw_M_typed4 := rfl
theorem pl_M_feed : (am_pg z_M_feed).1 = 6 := rfl
theorem pm_M_feed : (am_pg z_M_feed).2 = am_at rw_M_feed := rfl
theorem pl_M_see : (am_pg z_M_see).1 = 1 := rfl
theorem pm_M_see : (am_pg z_M_see).2 = am_at rw_M_see := rfl
theorem pl_M_wrong : (am_pg z_M_wrong).1 = 3 := rfl
theorem pm_M_wrong : (am_pg z_M_wrong).2 = am_at rw_M_wrong := rfl
theorem pl_M_isDigit : (am_pg z_M_isDigit).1 = 1 := rfl
theorem pm_M_isDigit : (am_pg z_M_isDigit).2 = am_at rw_M_isDigit := rfl
theorem pl_M_readsDay : (am_pg z_M_readsDay).1 = 4 := rfl
theorem pm_M_readsDay : (am_pg z_M_readsDay).2 = am_at rw_M_readsDay := rfl
theorem pl_M_readsStay : (am_pg z_M_readsStay).1 = 3 := rfl
theorem pm_M_readsStay : (am_pg z_M_readsStay).2 = am_at rw_M_readsStay := rfl
theorem pl_M_readsAll : (am_pg z_M_readsAll).1 = 4 := rfl
theorem pm_M_readsAll : (am_pg z_M_readsAll).2 = am_at rw_M_readsAll := rfl
theorem pl_M_laysStays : (am_pg z_M_laysStays).1 = 4 := rfl
theorem pm_M_laysStays : (am_pg z_M_laysStays).2 = am_at rw_M_laysStays := rfl
theorem pl_M_hasText : (am_pg z_M_hasText).1 = 2 := rfl
theorem pm_M_hasText : (am_pg z_M_hasText).2 = am_at rw_M_hasText := rfl
theorem pl_M_calendar : (am_pg z_M_calendar).1 = 3 := rfl
theorem pm_M_calendar : (am_pg z_M_calendar).2 = am_at rw_M_calendar := rfl
theorem pl_M_stay : (am_pg z_M_stay).1 = 6 := rfl
theorem pm_M_stay : (am_pg z_M_stay).2 = am_at rw_M_stay := rfl
theorem pl_M_home : (am_pg z_M_home).1 = 8 := rfl
theorem pm_M_home : (am_pg z_M_home).2 = am_at rw_M_home := rfl
theorem pl_M_centre : (am_pg z_M_centre).1 = 6 := rfl
theorem pm_M_centre : (am_pg z_M_centre).2 = am_at rw_M_centre := rfl
theorem pl_M_nation : (am_pg z_M_nation).1 = 3 := rfl
theorem pm_M_nation : (am_pg z_M_nation).2 = am_at rw_M_nation := rfl
theorem pl_M_draw : (am_pg z_M_draw).1 = 2 := rfl
theorem pm_M_draw : (am_pg z_M_draw).2 = am_at rw_M_draw := rfl
theorem pl_M_drawn : (am_pg z_M_drawn).1 = 8 := rfl
theorem pm_M_drawn : (am_pg z_M_drawn).2 = am_at rw_M_drawn := rfl
theorem pl_M_at : (am_pg z_M_at).1 = 4 := rfl
theorem pm_M_at : (am_pg z_M_at).2 = am_at rw_M_at := rfl
theorem pl_M_writes : (am_pg z_M_writes).1 = 2 := rfl
theorem pm_M_writes : (am_pg z_M_writes).2 = am_at rw_M_writes := rfl
theorem pl_M_writesNumber : (am_pg z_M_writesNumber).1 = 3 := rfl
theorem pm_M_writesNumber : (am_pg z_M_writesNumber).2 = am_at rw_M_writesNumber := rfl
theorem pl_M_begins : (am_pg z_M_begins).1 = 2 := rfl
theorem pm_M_begins : (am_pg z_M_begins).2 = am_at rw_M_begins := rfl
theorem pl_M_endOf : (am_pg z_M_endOf).1 = 3 := rfl
theorem pm_M_endOf : (am_pg z_M_endOf).2 = am_at rw_M_endOf := rfl
theorem pl_M_letter : (am_pg z_M_letter).1 = 3 := rfl
theorem pm_M_letter : (am_pg z_M_letter).2 = am_at rw_M_letter := rfl
theorem pl_M_window : (am_pg z_M_window).1 = 5 := rfl
theorem pm_M_window : (am_pg z_M_window).2 = am_at rw_M_window := rfl
theorem pl_M_rule : (am_pg z_M_rule).1 = 5 := rfl
theorem pm_M_rule : (am_pg z_M_rule).2 = am_at rw_M_rule := rfl
theorem pl_M_letterOf : (am_pg z_M_letterOf).1 = 1 := rfl
theorem pm_M_letterOf : (am_pg z_M_letterOf).2 = am_at rw_M_letterOf := rfl
theorem pl_M_readsLetters : (am_pg z_M_readsLetters).1 = 4 := rfl
theorem pm_M_readsLetters : (am_pg z_M_readsLetters).2 = am_at rw_M_readsLetters := rfl
theorem pl_M_order : (am_pg z_M_order).1 = 4 := rfl
theorem pm_M_order : (am_pg z_M_order).2 = am_at rw_M_order := rfl
theorem pl_M_entries : (am_pg z_M_entries).1 = 4 := rfl
theorem pm_M_entries : (am_pg z_M_entries).2 = am_at rw_M_entries := rfl
theorem pl_M_entered : (am_pg z_M_entered).1 = 8 := rfl
theorem pm_M_entered : (am_pg z_M_entered).2 = am_at rw_M_entered := rfl
theorem pl_M_areTwo : (am_pg z_M_areTwo).1 = 2 := rfl
theorem pm_M_areTwo : (am_pg z_M_areTwo).2 = am_at rw_M_areTwo := rfl
theorem pl_M_pactAt : (am_pg z_M_pactAt).1 = 2 := rfl
theorem pm_M_pactAt : (am_pg z_M_pactAt).2 = am_at rw_M_pactAt := rfl
theorem pl_M_treaty : (am_pg z_M_treaty).1 = 5 := rfl
theorem pm_M_treaty : (am_pg z_M_treaty).2 = am_at rw_M_treaty := rfl
theorem pl_M_without : (am_pg z_M_without).1 = 3 := rfl
theorem pm_M_without : (am_pg z_M_without).2 = am_at rw_M_without := rfl
theorem pl_M_tax : (am_pg z_M_tax).1 = 4 := rfl
theorem pm_M_tax : (am_pg z_M_tax).2 = am_at rw_M_tax := rfl
theorem pl_M_told : (am_pg z_M_told).1 = 3 := rfl
theorem pm_M_told : (am_pg z_M_told).2 = am_at rw_M_told := rfl
theorem pl_M_yearOf : (am_pg z_M_yearOf).1 = 1 := rfl
theorem pm_M_yearOf : (am_pg z_M_yearOf).2 = am_at rw_M_yearOf := rfl
theorem pl_M_rows : (am_pg z_M_rows).1 = 8 := rfl
theorem pm_M_rows : (am_pg z_M_rows).2 = am_at rw_M_rows := rfl
theorem pl_M_daysIn : (am_pg z_M_daysIn).1 = 7 := rfl
theorem pm_M_daysIn : (am_pg z_M_daysIn).2 = am_at rw_M_daysIn := rfl
theorem pl_M_days : (am_pg z_M_days).1 = 4 := rfl
theorem pm_M_days : (am_pg z_M_days).2 = am_at rw_M_days := rfl
theorem pl_M_between : (am_pg z_M_between).1 = 6 := rfl
theorem pm_M_between : (am_pg z_M_between).2 = am_at rw_M_between := rfl
theorem pl_M_month : (am_pg z_M_month).1 = 3 := rfl
theorem pm_M_month : (am_pg z_M_month).2 = am_at rw_M_month := rfl
theorem pl_M_within : (am_pg z_M_within).1 = 4 := rfl
theorem pm_M_within : (am_pg z_M_within).2 = am_at rw_M_within := rfl
theorem pl_M_laysLast : (am_pg z_M_laysLast).1 = 5 := rfl
theorem pm_M_laysLast : (am_pg z_M_laysLast).2 = am_at rw_M_laysLast := rfl
theorem pl_M_overstaysOn : (am_pg z_M_overstaysOn).1 = 3 := rfl
theorem pm_M_overstaysOn : (am_pg z_M_overstaysOn).2 = am_at rw_M_overstaysOn := rfl
theorem pl_M_overstayed : (am_pg z_M_overstayed).1 = 9 := rfl
theorem pm_M_overstayed : (am_pg z_M_overstayed).2 = am_at rw_M_overstayed := rfl
theorem pl_M_overstays : (am_pg z_M_overstays).1 = 5 := rfl
theorem pm_M_overstays : (am_pg z_M_overstays).2 = am_at rw_M_overstays := rfl
theorem pl_M_allOverstays : (am_pg z_M_allOverstays).1 = 3 := rfl
theorem pm_M_allOverstays : (am_pg z_M_allOverstays).2 = am_at rw_M_allOverstays := rfl
theorem pl_M_nth : (am_pg z_M_nth).1 = 6 := rfl
theorem pm_M_nth : (am_pg z_M_nth).2 = am_at rw_M_nth := rfl
theorem pl_M_away : (am_pg z_M_away).1 = 7 := rfl
theorem pm_M_away : (am_pg z_M_away).2 = am_at rw_M_away := rfl
theorem pl_M_travels : (am_pg z_M_travels).1 = 7 := rfl
theorem pm_M_travels : (am_pg z_M_travels).2 = am_at rw_M_travels := rfl
theorem pl_M_tight : (am_pg z_M_tight).1 = 7 := rfl
theorem pm_M_tight : (am_pg z_M_tight).2 = am_at rw_M_tight := rfl
theorem pl_M_rank : (am_pg z_M_rank).1 = 7 := rfl
theorem pm_M_rank : (am_pg z_M_rank).2 = am_at rw_M_rank := rfl
theorem pl_M_laysAside : (am_pg z_M_laysAside).1 = 2 := rfl
theorem pm_M_laysAside : (am_pg z_M_laysAside).2 = am_at rw_M_laysAside := rfl
theorem pl_M_takesAside : (am_pg z_M_takesAside).1 = 2 := rfl
theorem pm_M_takesAside : (am_pg z_M_takesAside).2 = am_at rw_M_takesAside := rfl
theorem pl_M_slide : (am_pg z_M_slide).1 = 6 := rfl
theorem pm_M_slide : (am_pg z_M_slide).2 = am_at rw_M_slide := rfl
theorem pl_M_allStays : (am_pg z_M_allStays).1 = 3 := rfl
theorem pm_M_allStays : (am_pg z_M_allStays).2 = am_at rw_M_allStays := rfl
theorem pl_M_partner : (am_pg z_M_partner).1 = 2 := rfl
theorem pm_M_partner : (am_pg z_M_partner).2 = am_at rw_M_partner := rfl
theorem pl_M_together : (am_pg z_M_together).1 = 9 := rfl
theorem pm_M_together : (am_pg z_M_together).2 = am_at rw_M_together := rfl
theorem pl_M_countAt : (am_pg z_M_countAt).1 = 3 := rfl
theorem pm_M_countAt : (am_pg z_M_countAt).2 = am_at rw_M_countAt := rfl
theorem pl_M_counted : (am_pg z_M_counted).1 = 4 := rfl
theorem pm_M_counted : (am_pg z_M_counted).2 = am_at rw_M_counted := rfl
theorem pl_M_laysCounts : (am_pg z_M_laysCounts).1 = 4 := rfl
theorem pm_M_laysCounts : (am_pg z_M_laysCounts).2 = am_at rw_M_laysCounts := rfl
theorem pl_M_adds : (am_pg z_M_adds).1 = 4 := rfl
theorem pm_M_adds : (am_pg z_M_adds).2 = am_at rw_M_adds := rfl
theorem pl_M_sixfold : (am_pg z_M_sixfold).1 = 4 := rfl
theorem pm_M_sixfold : (am_pg z_M_sixfold).2 = am_at rw_M_sixfold := rfl
theorem pl_M_mostBy : (am_pg z_M_mostBy).1 = 5 := rfl
theorem pm_M_mostBy : (am_pg z_M_mostBy).2 = am_at rw_M_mostBy := rfl
theorem pl_M_most : (am_pg z_M_most).1 = 4 := rfl
theorem pm_M_most : (am_pg z_M_most).2 = am_at rw_M_most := rfl
theorem pl_M_holding : (am_pg z_M_holding).1 = 7 := rfl
theorem pm_M_holding : (am_pg z_M_holding).2 = am_at rw_M_holding := rfl
theorem pl_M_claiming : (am_pg z_M_claiming).1 = 4 := rfl
theorem pm_M_claiming : (am_pg z_M_claiming).2 = am_at rw_M_claiming := rfl
theorem pl_M_claims : (am_pg z_M_claims).1 = 2 := rfl
theorem pm_M_claims : (am_pg z_M_claims).2 = am_at rw_M_claims := rfl
theorem pl_M_holds : (am_pg z_M_holds).1 = 3 := rfl
theorem pm_M_holds : (am_pg z_M_holds).2 = am_at rw_M_holds := rfl
theorem pl_M_tells : (am_pg z_M_tells).1 = 7 := rfl
theorem pm_M_tells : (am_pg z_M_tells).2 = am_at rw_M_tells := rfl
theorem pl_M_letterBy : (am_pg z_M_letterBy).1 = 8 := rfl
theorem pm_M_letterBy : (am_pg z_M_letterBy).2 = am_at rw_M_letterBy := rfl
theorem pl_M_answer : (am_pg z_M_answer).1 = 6 := rfl
theorem pm_M_answer : (am_pg z_M_answer).2 = am_at rw_M_answer := rfl
theorem pl_M_answers : (am_pg z_M_answers).1 = 4 := rfl
theorem pm_M_answers : (am_pg z_M_answers).2 = am_at rw_M_answers := rfl
theorem pl_M_by : (am_pg z_M_by).1 = 5 := rfl
theorem pm_M_by : (am_pg z_M_by).2 = am_at rw_M_by := rfl
theorem pl_M_livesNow : (am_pg z_M_livesNow).1 = 6 := rfl
theorem pm_M_livesNow : (am_pg z_M_livesNow).2 = am_at rw_M_livesNow := rfl
theorem pl_M_lives : (am_pg z_M_lives).1 = 2 := rfl
theorem pm_M_lives : (am_pg z_M_lives).2 = am_at rw_M_lives := rfl
theorem pl_M_pairs : (am_pg z_M_pairs).1 = 9 := rfl
theorem pm_M_pairs : (am_pg z_M_pairs).2 = am_at rw_M_pairs := rfl
theorem pl_M_isClaimed : (am_pg z_M_isClaimed).1 = 3 := rfl
theorem pm_M_isClaimed : (am_pg z_M_isClaimed).2 = am_at rw_M_isClaimed := rfl
theorem pl_M_isTied : (am_pg z_M_isTied).1 = 3 := rfl
theorem pm_M_isTied : (am_pg z_M_isTied).2 = am_at rw_M_isTied := rfl
theorem pl_M_fromOf : (am_pg z_M_fromOf).1 = 4 := rfl
theorem pm_M_fromOf : (am_pg z_M_fromOf).2 = am_at rw_M_fromOf := rfl
theorem pl_M_tillOf : (am_pg z_M_tillOf).1 = 4 := rfl
theorem pm_M_tillOf : (am_pg z_M_tillOf).2 = am_at rw_M_tillOf := rfl
theorem pl_M_split : (am_pg z_M_split).1 = 4 := rfl
theorem pm_M_split : (am_pg z_M_split).2 = am_at rw_M_split := rfl
theorem pl_M_owes : (am_pg z_M_owes).1 = 8 := rfl
theorem pm_M_owes : (am_pg z_M_owes).2 = am_at rw_M_owes := rfl
theorem pl_M_owed : (am_pg z_M_owed).1 = 2 := rfl
theorem pm_M_owed : (am_pg z_M_owed).2 = am_at rw_M_owed := rfl
theorem pl_M_owesAll : (am_pg z_M_owesAll).1 = 3 := rfl
theorem pm_M_owesAll : (am_pg z_M_owesAll).2 = am_at rw_M_owesAll := rfl
theorem pl_M_mayBe : (am_pg z_M_mayBe).1 = 6 := rfl
theorem pm_M_mayBe : (am_pg z_M_mayBe).2 = am_at rw_M_mayBe := rfl
theorem pl_M_freeOf : (am_pg z_M_freeOf).1 = 9 := rfl
theorem pm_M_freeOf : (am_pg z_M_freeOf).2 = am_at rw_M_freeOf := rfl
theorem pl_M_isSpan : (am_pg z_M_isSpan).1 = 1 := rfl
theorem pm_M_isSpan : (am_pg z_M_isSpan).2 = am_at rw_M_isSpan := rfl
theorem pl_M_free : (am_pg z_M_free).1 = 4 := rfl
theorem pm_M_free : (am_pg z_M_free).2 = am_at rw_M_free := rfl
theorem pl_M_goes : (am_pg z_M_goes).1 = 5 := rfl
theorem pm_M_goes : (am_pg z_M_goes).2 = am_at rw_M_goes := rfl
theorem pl_M_mustLeave : (am_pg z_M_mustLeave).1 = 4 := rfl
theorem pm_M_mustLeave : (am_pg z_M_mustLeave).2 = am_at rw_M_mustLeave := rfl
theorem pl_M_wouldBe : (am_pg z_M_wouldBe).1 = 5 := rfl
theorem pm_M_wouldBe : (am_pg z_M_wouldBe).2 = am_at rw_M_wouldBe := rfl
theorem pl_M_mayCome : (am_pg z_M_mayCome).1 = 8 := rfl
theorem pm_M_mayCome : (am_pg z_M_mayCome).2 = am_at rw_M_mayCome := rfl
theorem pl_M_claimBy : (am_pg z_M_claimBy).1 = 4 := rfl
theorem pm_M_claimBy : (am_pg z_M_claimBy).2 = am_at rw_M_claimBy := rfl
theorem pl_M_freest : (am_pg z_M_freest).1 = 8 := rfl
theorem pm_M_freest : (am_pg z_M_freest).2 = am_at rw_M_freest := rfl
theorem pl_M_needs : (am_pg z_M_needs).1 = 6 := rfl
theorem pm_M_needs : (am_pg z_M_needs).2 = am_at rw_M_needs := rfl
theorem pl_M_need : (am_pg z_M_need).1 = 3 := rfl
theorem pm_M_need : (am_pg z_M_need).2 = am_at rw_M_need := rfl
theorem pl_M_livesBy : (am_pg z_M_livesBy).1 = 5 := rfl
theorem pm_M_livesBy : (am_pg z_M_livesBy).2 = am_at rw_M_livesBy := rfl
theorem pl_M_moved : (am_pg z_M_moved).1 = 3 := rfl
theorem pm_M_moved : (am_pg z_M_moved).2 = am_at rw_M_moved := rfl
theorem pl_M_loosens : (am_pg z_M_loosens).1 = 4 := rfl
theorem pm_M_loosens : (am_pg z_M_loosens).2 = am_at rw_M_loosens := rfl
theorem pl_M_loose : (am_pg z_M_loose).1 = 8 := rfl
theorem pm_M_loose : (am_pg z_M_loose).2 = am_at rw_M_loose := rfl
theorem pl_M_nearest : (am_pg z_M_nearest).1 = 7 := rfl
theorem pm_M_nearest : (am_pg z_M_nearest).2 = am_at rw_M_nearest := rfl
theorem pl_M_asked : (am_pg z_M_asked).1 = 2 := rfl
theorem pm_M_asked : (am_pg z_M_asked).2 = am_at rw_M_asked := rfl
theorem pl_M_instead : (am_pg z_M_instead).1 = 7 := rfl
theorem pm_M_instead : (am_pg z_M_instead).2 = am_at rw_M_instead := rfl
theorem pl_M_trip : (am_pg z_M_trip).1 = 5 := rfl
theorem pm_M_trip : (am_pg z_M_trip).2 = am_at rw_M_trip := rfl
theorem pl_M_cheapest : (am_pg z_M_cheapest).1 = 8 := rfl
theorem pm_M_cheapest : (am_pg z_M_cheapest).2 = am_at rw_M_cheapest := rfl
theorem pl_M_trade : (am_pg z_M_trade).1 = 8 := rfl
theorem pm_M_trade : (am_pg z_M_trade).2 = am_at rw_M_trade := rfl
theorem pl_M_erase : (am_pg z_M_erase).1 = 6 := rfl
theorem pm_M_erase : (am_pg z_M_erase).2 = am_at rw_M_erase := rfl
theorem pl_M_routes : (am_pg z_M_routes).1 = 6 := rfl
theorem pm_M_routes : (am_pg z_M_routes).2 = am_at rw_M_routes := rfl
theorem pl_M_latest : (am_pg z_M_latest).1 = 4 := rfl
theorem pm_M_latest : (am_pg z_M_latest).2 = am_at rw_M_latest := rfl
theorem pl_M_wins : (am_pg z_M_wins).1 = 7 := rfl
theorem pm_M_wins : (am_pg z_M_wins).2 = am_at rw_M_wins := rfl
theorem pl_M_count : (am_pg z_M_count).1 = 4 := rfl
theorem pm_M_count : (am_pg z_M_count).2 = am_at rw_M_count := rfl
theorem pl_M_keep : (am_pg z_M_keep).1 = 2 := rfl
theorem pm_M_keep : (am_pg z_M_keep).2 = am_at rw_M_keep := rfl
theorem pl_J_weigh : (am_pg z_J_weigh).1 = 2 := rfl
theorem pm_J_weigh : (am_pg z_J_weigh).2 = am_at rw_J_weigh := rfl
theorem pl_J_weighPlaces : (am_pg z_J_weighPlaces).1 = 2 := rfl
theorem pm_J_weighPlaces : (am_pg z_J_weighPlaces).2 = am_at rw_J_weighPlaces := rfl
theorem pl_J_weighHomes : (am_pg z_J_weighHomes).1 = 5 := rfl
theorem pm_J_weighHomes : (am_pg z_J_weighHomes).2 = am_at rw_J_weighHomes := rfl
theorem pl_J_countInto : (am_pg z_J_countInto).1 = 4 := rfl
theorem pm_J_countInto : (am_pg z_J_countInto).2 = am_at rw_J_countInto := rfl
theorem pl_J_greatest : (am_pg z_J_greatest).1 = 7 := rfl
theorem pm_J_greatest : (am_pg z_J_greatest).2 = am_at rw_J_greatest := rfl
theorem pl_J_holdingBits : (am_pg z_J_holdingBits).1 = 6 := rfl
theorem pm_J_holdingBits : (am_pg z_J_holdingBits).2 = am_at rw_J_holdingBits := rfl
theorem pl_J_isClaiming : (am_pg z_J_isClaiming).1 = 3 := rfl
theorem pm_J_isClaiming : (am_pg z_J_isClaiming).2 = am_at rw_J_isClaiming := rfl
theorem pl_J_claimBits : (am_pg z_J_claimBits).1 = 4 := rfl
theorem pm_J_claimBits : (am_pg z_J_claimBits).2 = am_at rw_J_claimBits := rfl
theorem pl_J_landsAbove : (am_pg z_J_landsAbove).1 = 7 := rfl
theorem pm_J_landsAbove : (am_pg z_J_landsAbove).2 = am_at rw_J_landsAbove := rfl
theorem pl_J_tellingPlace : (am_pg z_J_tellingPlace).1 = 6 := rfl
theorem pm_J_tellingPlace : (am_pg z_J_tellingPlace).2 = am_at rw_J_tellingPlace := rfl
theorem pl_J_answerOf : (am_pg z_J_answerOf).1 = 7 := rfl
theorem pm_J_answerOf : (am_pg z_J_answerOf).2 = am_at rw_J_answerOf := rfl
theorem pl_J_leaning : (am_pg z_J_leaning).1 = 7 := rfl
theorem pm_J_leaning : (am_pg z_J_leaning).2 = am_at rw_J_leaning := rfl
theorem pl_J_isPairOf : (am_pg z_J_isPairOf).1 = 7 := rfl
theorem pm_J_isPairOf : (am_pg z_J_isPairOf).2 = am_at rw_J_isPairOf := rfl
theorem pl_J_beaten : (am_pg z_J_beaten).1 = 6 := rfl
theorem pm_J_beaten : (am_pg z_J_beaten).2 = am_at rw_J_beaten := rfl
theorem pl_J_livesIn : (am_pg z_J_livesIn).1 = 5 := rfl
theorem pm_J_livesIn : (am_pg z_J_livesIn).2 = am_at rw_J_livesIn := rfl
theorem pl_J_livesIfMoved : (am_pg z_J_livesIfMoved).1 = 5 := rfl
theorem pm_J_livesIfMoved : (am_pg z_J_livesIfMoved).2 = am_at rw_J_livesIfMoved := rfl
theorem pl_J_shift : (am_pg z_J_shift).1 = 4 := rfl
theorem pm_J_shift : (am_pg z_J_shift).2 = am_at rw_J_shift := rfl
theorem pl_J_loosePlaces : (am_pg z_J_loosePlaces).1 = 6 := rfl
theorem pm_J_loosePlaces : (am_pg z_J_loosePlaces).2 = am_at rw_J_loosePlaces := rfl
theorem pl_J_needOf : (am_pg z_J_needOf).1 = 7 := rfl
theorem pm_J_needOf : (am_pg z_J_needOf).2 = am_at rw_J_needOf := rfl
theorem pl_J_splitFrom : (am_pg z_J_splitFrom).1 = 5 := rfl
theorem pm_J_splitFrom : (am_pg z_J_splitFrom).2 = am_at rw_J_splitFrom := rfl
theorem pl_J_splitTill : (am_pg z_J_splitTill).1 = 5 := rfl
theorem pm_J_splitTill : (am_pg z_J_splitTill).2 = am_at rw_J_splitTill := rfl
theorem pl_J_isBound : (am_pg z_J_isBound).1 = 4 := rfl
theorem pm_J_isBound : (am_pg z_J_isBound).2 = am_at rw_J_isBound := rfl
theorem pl_J_owedIn : (am_pg z_J_owedIn).1 = 9 := rfl
theorem pm_J_owedIn : (am_pg z_J_owedIn).2 = am_at rw_J_owedIn := rfl
theorem pl_P_copyFrom : (am_pg z_P_copyFrom).1 = 2 := rfl
theorem pm_P_copyFrom : (am_pg z_P_copyFrom).2 = am_at rw_P_copyFrom := rfl
theorem pl_P_becomeLike : (am_pg z_P_becomeLike).1 = 4 := rfl
theorem pm_P_becomeLike : (am_pg z_P_becomeLike).2 = am_at rw_P_becomeLike := rfl
theorem pl_P_put : (am_pg z_P_put).1 = 6 := rfl
theorem pm_P_put : (am_pg z_P_put).2 = am_at rw_P_put := rfl
theorem pl_P_landOn : (am_pg z_P_landOn).1 = 2 := rfl
theorem pm_P_landOn : (am_pg z_P_landOn).2 = am_at rw_P_landOn := rfl
theorem pl_P_startsStay : (am_pg z_P_startsStay).1 = 2 := rfl
theorem pm_P_startsStay : (am_pg z_P_startsStay).2 = am_at rw_P_startsStay := rfl
theorem pl_P_lastOfStay : (am_pg z_P_lastOfStay).1 = 5 := rfl
theorem pm_P_lastOfStay : (am_pg z_P_lastOfStay).2 = am_at rw_P_lastOfStay := rfl
theorem pl_P_stayCount : (am_pg z_P_stayCount).1 = 3 := rfl
theorem pm_P_stayCount : (am_pg z_P_stayCount).2 = am_at rw_P_stayCount := rfl
theorem pl_P_countOf : (am_pg z_P_countOf).1 = 6 := rfl
theorem pm_P_countOf : (am_pg z_P_countOf).2 = am_at rw_P_countOf := rfl
theorem pl_P_rowsOf : (am_pg z_P_rowsOf).1 = 6 := rfl
theorem pm_P_rowsOf : (am_pg z_P_rowsOf).2 = am_at rw_P_rowsOf := rfl
theorem pl_P_longestRow : (am_pg z_P_longestRow).1 = 7 := rfl
theorem pm_P_longestRow : (am_pg z_P_longestRow).2 = am_at rw_P_longestRow := rfl
theorem pl_D_readText : (am_pg z_D_readText).1 = 4 := rfl
theorem pm_D_readText : (am_pg z_D_readText).2 = am_at rw_D_readText := rfl
theorem pl_D_layOver : (am_pg z_D_layOver).1 = 3 := rfl
theorem pm_D_layOver : (am_pg z_D_layOver).2 = am_at rw_D_layOver := rfl
theorem pl_D_readStay : (am_pg z_D_readStay).1 = 5 := rfl
theorem pm_D_readStay : (am_pg z_D_readStay).2 = am_at rw_D_readStay := rfl
theorem pl_D_readPoints : (am_pg z_D_readPoints).1 = 1 := rfl
theorem pm_D_readPoints : (am_pg z_D_readPoints).2 = am_at rw_D_readPoints := rfl
theorem pl_D_readDay : (am_pg z_D_readDay).1 = 5 := rfl
theorem pm_D_readDay : (am_pg z_D_readDay).2 = am_at rw_D_readDay := rfl
theorem pl_D_readComma : (am_pg z_D_readComma).1 = 1 := rfl
theorem pm_D_readComma : (am_pg z_D_readComma).2 = am_at rw_D_readComma := rfl
theorem pl_D_skipBlanks : (am_pg z_D_skipBlanks).1 = 2 := rfl
theorem pm_D_skipBlanks : (am_pg z_D_skipBlanks).2 = am_at rw_D_skipBlanks := rfl
theorem pl_D_sign : (am_pg z_D_sign).1 = 1 := rfl
theorem pm_D_sign : (am_pg z_D_sign).2 = am_at rw_D_sign := rfl
theorem pl_D_fail : (am_pg z_D_fail).1 = 3 := rfl
theorem pm_D_fail : (am_pg z_D_fail).2 = am_at rw_D_fail := rfl
theorem pl_D_isDigit : (am_pg z_D_isDigit).1 = 1 := rfl
theorem pm_D_isDigit : (am_pg z_D_isDigit).2 = am_at rw_D_isDigit := rfl
theorem pl_D_landOf : (am_pg z_D_landOf).1 = 1 := rfl
theorem pm_D_landOf : (am_pg z_D_landOf).2 = am_at rw_D_landOf := rfl
theorem pl_O_read : (am_pg z_O_read).1 = 4 := rfl
theorem pm_O_read : (am_pg z_O_read).2 = am_at rw_O_read := rfl
theorem pl_O_between : (am_pg z_O_between).1 = 4 := rfl
theorem pm_O_between : (am_pg z_O_between).2 = am_at rw_O_between := rfl
theorem pl_O_isThere : (am_pg z_O_isThere).1 = 2 := rfl
theorem pm_O_isThere : (am_pg z_O_isThere).2 = am_at rw_O_isThere := rfl
theorem pl_O_beyond : (am_pg z_O_beyond).1 = 2 := rfl
theorem pm_O_beyond : (am_pg z_O_beyond).2 = am_at rw_O_beyond := rfl
theorem pl_O_overstayDays : (am_pg z_O_overstayDays).1 = 3 := rfl
theorem pm_O_overstayDays : (am_pg z_O_overstayDays).2 = am_at rw_O_overstayDays := rfl
theorem pl_O_isTooLong : (am_pg z_O_isTooLong).1 = 5 := rfl
theorem pm_O_isTooLong : (am_pg z_O_isTooLong).2 = am_at rw_O_isTooLong := rfl
theorem pl_O_fillUp : (am_pg z_O_fillUp).1 = 7 := rfl
theorem pm_O_fillUp : (am_pg z_O_fillUp).2 = am_at rw_O_fillUp := rfl
theorem pl_O_noteShutter : (am_pg z_O_noteShutter).1 = 5 := rfl
theorem pm_O_noteShutter : (am_pg z_O_noteShutter).2 = am_at rw_O_noteShutter := rfl
theorem pl_O_hasRoom : (am_pg z_O_hasRoom).1 = 6 := rfl
theorem pm_O_hasRoom : (am_pg z_O_hasRoom).2 = am_at rw_O_hasRoom := rfl
theorem pl_R_needed : (am_pg z_R_needed).1 = 3 := rfl
theorem pm_R_needed : (am_pg z_R_needed).2 = am_at rw_R_needed := rfl
theorem pl_R_isNation : (am_pg z_R_isNation).1 = 2 := rfl
theorem pm_R_isNation : (am_pg z_R_isNation).2 = am_at rw_R_isNation := rfl
theorem pl_R_treatyRow : (am_pg z_R_treatyRow).1 = 3 := rfl
theorem pm_R_treatyRow : (am_pg z_R_treatyRow).2 = am_at rw_R_treatyRow := rfl
theorem pl_R_setTreaty : (am_pg z_R_setTreaty).1 = 4 := rfl
theorem pm_R_setTreaty : (am_pg z_R_setTreaty).2 = am_at rw_R_setTreaty := rfl
theorem pl_R_answerRow : (am_pg z_R_answerRow).1 = 4 := rfl
theorem pm_R_answerRow : (am_pg z_R_answerRow).2 = am_at rw_R_answerRow := rfl
theorem pl_E_spell : (am_pg z_E_spell).1 = 4 := rfl
theorem pm_E_spell : (am_pg z_E_spell).2 = am_at rw_E_spell := rfl
theorem pl_E_putStay : (am_pg z_E_putStay).1 = 4 := rfl
theorem pm_E_putStay : (am_pg z_E_putStay).2 = am_at rw_E_putStay := rfl
theorem pl_E_putNumber : (am_pg z_E_putNumber).1 = 3 := rfl
theorem pm_E_putNumber : (am_pg z_E_putNumber).2 = am_at rw_E_putNumber := rfl
theorem pl_E_putSign : (am_pg z_E_putSign).1 = 2 := rfl
theorem pm_E_putSign : (am_pg z_E_putSign).2 = am_at rw_E_putSign := rfl
theorem pl_S_hasHome : (am_pg z_S_hasHome).1 = 3 := rfl
theorem pm_S_hasHome : (am_pg z_S_hasHome).2 = am_at rw_S_hasHome := rfl
theorem pl_S_homeDays : (am_pg z_S_homeDays).1 = 6 := rfl
theorem pm_S_homeDays : (am_pg z_S_homeDays).2 = am_at rw_S_homeDays := rfl
theorem pl_T_putWord : (am_pg z_T_putWord).1 = 3 := rfl
theorem pm_T_putWord : (am_pg z_T_putWord).2 = am_at rw_T_putWord := rfl
theorem pl_T_takeRow : (am_pg z_T_takeRow).1 = 6 := rfl
theorem pm_T_takeRow : (am_pg z_T_takeRow).2 = am_at rw_T_takeRow := rfl
theorem pl_T_letterOf : (am_pg z_T_letterOf).1 = 1 := rfl
theorem pm_T_letterOf : (am_pg z_T_letterOf).2 = am_at rw_T_letterOf := rfl
theorem pl_X_bitCount : (am_pg z_X_bitCount).1 = 1 := rfl
theorem pm_X_bitCount : (am_pg z_X_bitCount).2 = am_at rw_X_bitCount := rfl
theorem pl_X_fill : (am_pg z_X_fill).1 = 4 := rfl
theorem pm_X_fill : (am_pg z_X_fill).2 = am_at rw_X_fill := rfl
theorem rl_L_feed_0 : (am_pg z_L_feed).2 0 = some (.aload_n 0, 1, 0, 0, 0, 0, 0, []) := (congrFun pm_L_feed 0).trans rfl
theorem rl_L_feed_1 : (am_pg z_L_feed).2 1 = some (.getfield 27, 4, 8, 3, 0, 70, 0, []) := (congrFun pm_L_feed 1).trans rfl
theorem rl_L_feed_4 : (am_pg z_L_feed).2 4 = some (.getfield 80, 7, 7, 1, 0, 41, 0, []) := (congrFun pm_L_feed 4).trans rfl
theorem rl_L_feed_7 : (am_pg z_L_feed).2 7 = some (.bipush (20), 9, 0, 0, 0, 0, 20, []) := (congrFun pm_L_feed 7).trans rfl
theorem rl_L_feed_9 : (am_pg z_L_feed).2 9 = some (.iadd, 10, 0, 0, 0, 0, 0, []) := (congrFun pm_L_feed 9).trans rfl
theorem rl_L_feed_10 : (am_pg z_L_feed).2 10 = some (.sipush (320), 13, 0, 0, 0, 0, 320, []) := (congrFun pm_L_feed 10).trans rfl
theorem rl_L_feed_13 : (am_pg z_L_feed).2 13 = some (.if_icmp .le (5), 16, 18, 0, 0, 0, 0, []) := (congrFun pm_L_feed 13).trans rfl
theorem rl_L_feed_16 : (am_pg z_L_feed).2 16 = some (.iconst (-1), 17, 0, 0, 0, 0, -1, []) := (congrFun pm_L_feed 16).trans rfl
theorem rl_L_feed_17 : (am_pg z_L_feed).2 17 = some (.ireturn, 18, 0, 0, 0, 0, 0, []) := (congrFun pm_L_feed 17).trans rfl
theorem rl_L_feed_18 : (am_pg z_L_feed).2 18 = some (.aload_n 0, 19, 0, 0, 0, 0, 0, []) := (congrFun pm_L_feed 18).trans rfl
theorem rl_L_feed_19 : (am_pg z_L_feed).2 19 = some (.getfield 27, 22, 8, 3, 0, 70, 0, []) := (congrFun pm_L_feed 19).trans rfl
theorem rl_L_feed_22 : (am_pg z_L_feed).2 22 = some (.iload_n 1, 23, 1, 0, 0, 0, 0, []) := (congrFun pm_L_feed 22).trans rfl
theorem rl_L_feed_23 : (am_pg z_L_feed).2 23 = some (.invokevirtual 83, 26, 283, 1, 7, 13, 0, []) := (congrFun pm_L_feed 23).trans rfl
theorem rl_L_feed_26 : (am_pg z_L_feed).2 26 = some (.aload_n 0, 27, 0, 0, 0, 0, 0, []) := (congrFun pm_L_feed 26).trans rfl
theorem rl_L_feed_27 : (am_pg z_L_feed).2 27 = some (.getfield 27, 30, 8, 3, 0, 70, 0, []) := (congrFun pm_L_feed 27).trans rfl
theorem rl_L_feed_30 : (am_pg z_L_feed).2 30 = some (.iload_n 2, 31, 2, 0, 0, 0, 0, []) := (congrFun pm_L_feed 30).trans rfl
theorem rl_L_feed_31 : (am_pg z_L_feed).2 31 = some (.invokevirtual 83, 34, 283, 1, 7, 13, 0, []) := (congrFun pm_L_feed 31).trans rfl
theorem rl_L_feed_34 : (am_pg z_L_feed).2 34 = some (.aload_n 0, 35, 0, 0, 0, 0, 0, []) := (congrFun pm_L_feed 34).trans rfl
theorem rl_L_feed_35 : (am_pg z_L_feed).2 35 = some (.getfield 27, 38, 8, 3, 0, 70, 0, []) := (congrFun pm_L_feed 35).trans rfl
theorem rl_L_feed_38 : (am_pg z_L_feed).2 38 = some (.iload_n 3, 39, 3, 0, 0, 0, 0, []) := (congrFun pm_L_feed 38).trans rfl
theorem rl_L_feed_39 : (am_pg z_L_feed).2 39 = some (.invokevirtual 83, 42, 283, 1, 7, 13, 0, []) := (congrFun pm_L_feed 39).trans rfl
theorem rl_L_feed_42 : (am_pg z_L_feed).2 42 = some (.aload_n 0, 43, 0, 0, 0, 0, 0, []) := (congrFun pm_L_feed 42).trans rfl
theorem rl_L_feed_43 : (am_pg z_L_feed).2 43 = some (.getfield 27, 46, 8, 3, 0, 70, 0, []) := (congrFun pm_L_feed 43).trans rfl
theorem rl_L_feed_46 : (am_pg z_L_feed).2 46 = some (.iload 4, 48, 4, 0, 0, 0, 0, []) := (congrFun pm_L_feed 46).trans rfl
theorem rl_L_feed_48 : (am_pg z_L_feed).2 48 = some (.invokevirtual 83, 51, 283, 1, 7, 13, 0, []) := (congrFun pm_L_feed 48).trans rfl
theorem rl_L_feed_51 : (am_pg z_L_feed).2 51 = some (.aload_n 0, 52, 0, 0, 0, 0, 0, []) := (congrFun pm_L_feed 51).trans rfl
theorem rl_L_feed_52 : (am_pg z_L_feed).2 52 = some (.getfield 27, 55, 8, 3, 0, 70, 0, []) := (congrFun pm_L_feed 52).trans rfl
theorem rl_L_feed_55 : (am_pg z_L_feed).2 55 = some (.iload 5, 57, 5, 0, 0, 0, 0, []) := (congrFun pm_L_feed 55).trans rfl
theorem rl_L_feed_57 : (am_pg z_L_feed).2 57 = some (.invokevirtual 83, 60, 283, 1, 7, 13, 0, []) := (congrFun pm_L_feed 57).trans rfl
theorem rl_L_feed_60 : (am_pg z_L_feed).2 60 = some (.aload_n 0, 61, 0, 0, 0, 0, 0, []) := (congrFun pm_L_feed 60).trans rfl
theorem rl_L_feed_61 : (am_pg z_L_feed).2 61 = some (.getfield 27, 64, 8, 3, 0, 70, 0, []) := (congrFun pm_L_feed 61).trans rfl
theorem rl_L_feed_64 : (am_pg z_L_feed).2 64 = some (.getfield 80, 67, 7, 1, 0, 41, 0, []) := (congrFun pm_L_feed 64).trans rfl
theorem rl_L_feed_67 : (am_pg z_L_feed).2 67 = some (.ireturn, 68, 0, 0, 0, 0, 0, []) := (congrFun pm_L_feed 67).trans rfl
theorem rl_L_calendar_0 : (am_pg z_L_calendar).2 0 = some (.aload_n 0, 1, 0, 0, 0, 0, 0, []) := (congrFun pm_L_calendar 0).trans rfl
theorem rl_L_calendar_1 : (am_pg z_L_calendar).2 1 = some (.iload_n 1, 2, 1, 0, 0, 0, 0, []) := (congrFun pm_L_calendar 1).trans rfl
theorem rl_L_calendar_2 : (am_pg z_L_calendar).2 2 = some (.invokevirtual 87, 5, 63, 1, 8, 15, 0, []) := (congrFun pm_L_calendar 2).trans rfl
theorem rl_L_calendar_5 : (am_pg z_L_calendar).2 5 = some (.ifCond .ne (5), 8, 10, 0, 0, 0, 0, []) := (congrFun pm_L_calendar 5).trans rfl
theorem rl_L_calendar_8 : (am_pg z_L_calendar).2 8 = some (.iconst (-1), 9, 0, 0, 0, 0, -1, []) := (congrFun pm_L_calendar 8).trans rfl
theorem rl_L_calendar_9 : (am_pg z_L_calendar).2 9 = some (.ireturn, 10, 0, 0, 0, 0, 0, []) := (congrFun pm_L_calendar 9).trans rfl
theorem rl_L_calendar_10 : (am_pg z_L_calendar).2 10 = some (.aload_n 0, 11, 0, 0, 0, 0, 0, []) := (congrFun pm_L_calendar 10).trans rfl
theorem rl_L_calendar_11 : (am_pg z_L_calendar).2 11 = some (.getfield 40, 14, 8, 4, 0, 71, 0, []) := (congrFun pm_L_calendar 11).trans rfl
theorem rl_L_calendar_14 : (am_pg z_L_calendar).2 14 = some (.iload_n 1, 15, 1, 0, 0, 0, 0, []) := (congrFun pm_L_calendar 14).trans rfl
theorem rl_L_calendar_15 : (am_pg z_L_calendar).2 15 = some (.invokevirtual 91, 18, 245, 1, 2, 17, 0, []) := (congrFun pm_L_calendar 15).trans rfl
theorem rl_L_calendar_18 : (am_pg z_L_calendar).2 18 = some (.istore_n 2, 19, 2, 0, 0, 0, 0, []) := (congrFun pm_L_calendar 18).trans rfl
theorem rl_L_calendar_19 : (am_pg z_L_calendar).2 19 = some (.aload_n 0, 20, 0, 0, 0, 0, 0, []) := (congrFun pm_L_calendar 19).trans rfl
theorem rl_L_calendar_20 : (am_pg z_L_calendar).2 20 = some (.getfield 27, 23, 8, 3, 0, 70, 0, []) := (congrFun pm_L_calendar 20).trans rfl
theorem rl_L_calendar_23 : (am_pg z_L_calendar).2 23 = some (.iconst (0), 24, 0, 0, 0, 0, 0, []) := (congrFun pm_L_calendar 23).trans rfl
theorem rl_L_calendar_24 : (am_pg z_L_calendar).2 24 = some (.putfield 80, 27, 7, 1, 0, 41, 0, []) := (congrFun pm_L_calendar 24).trans rfl
theorem rl_L_calendar_27 : (am_pg z_L_calendar).2 27 = some (.iload_n 2, 28, 2, 0, 0, 0, 0, []) := (congrFun pm_L_calendar 27).trans rfl
theorem rl_L_calendar_28 : (am_pg z_L_calendar).2 28 = some (.ifCond .le (17), 31, 45, 0, 0, 0, 0, []) := (congrFun pm_L_calendar 28).trans rfl
theorem rl_L_calendar_31 : (am_pg z_L_calendar).2 31 = some (.aload_n 0, 32, 0, 0, 0, 0, 0, []) := (congrFun pm_L_calendar 31).trans rfl
theorem rl_L_calendar_32 : (am_pg z_L_calendar).2 32 = some (.getfield 40, 35, 8, 4, 0, 71, 0, []) := (congrFun pm_L_calendar 32).trans rfl
theorem rl_L_calendar_35 : (am_pg z_L_calendar).2 35 = some (.aload_n 0, 36, 0, 0, 0, 0, 0, []) := (congrFun pm_L_calendar 35).trans rfl
theorem rl_L_calendar_36 : (am_pg z_L_calendar).2 36 = some (.getfield 10, 39, 8, 0, 0, 67, 0, []) := (congrFun pm_L_calendar 36).trans rfl
theorem rl_L_calendar_39 : (am_pg z_L_calendar).2 39 = some (.getfield 95, 42, 6, 0, 0, 24, 0, []) := (congrFun pm_L_calendar 39).trans rfl
theorem rl_L_calendar_42 : (am_pg z_L_calendar).2 42 = some (.invokevirtual 98, 45, 246, 1, 2, 29, 0, []) := (congrFun pm_L_calendar 42).trans rfl
theorem rl_L_calendar_45 : (am_pg z_L_calendar).2 45 = some (.iload_n 2, 46, 2, 0, 0, 0, 0, []) := (congrFun pm_L_calendar 45).trans rfl
theorem rl_L_calendar_46 : (am_pg z_L_calendar).2 46 = some (.ireturn, 47, 0, 0, 0, 0, 0, []) := (congrFun pm_L_calendar 46).trans rfl
theorem rl_L_stay_0 : (am_pg z_L_stay).2 0 = some (.iload_n 1, 1, 1, 0, 0, 0, 0, []) := (congrFun pm_L_stay 0).trans rfl
theorem rl_L_stay_1 : (am_pg z_L_stay).2 1 = some (.invokestatic 102, 4, 70, 1, 0, 32, 0, []) := (congrFun pm_L_stay 1).trans rfl
theorem rl_L_stay_4 : (am_pg z_L_stay).2 4 = some (.ifCond .eq (11), 7, 15, 0, 0, 0, 0, []) := (congrFun pm_L_stay 4).trans rfl
theorem rl_L_stay_7 : (am_pg z_L_stay).2 7 = some (.iload_n 2, 8, 2, 0, 0, 0, 0, []) := (congrFun pm_L_stay 7).trans rfl
theorem rl_L_stay_8 : (am_pg z_L_stay).2 8 = some (.iload_n 3, 9, 3, 0, 0, 0, 0, []) := (congrFun pm_L_stay 8).trans rfl
theorem rl_L_stay_9 : (am_pg z_L_stay).2 9 = some (.invokestatic 105, 12, 67, 2, 0, 33, 0, []) := (congrFun pm_L_stay 9).trans rfl
theorem rl_L_stay_12 : (am_pg z_L_stay).2 12 = some (.ifCond .ne (5), 15, 17, 0, 0, 0, 0, []) := (congrFun pm_L_stay 12).trans rfl
theorem rl_L_stay_15 : (am_pg z_L_stay).2 15 = some (.iconst (-1), 16, 0, 0, 0, 0, -1, []) := (congrFun pm_L_stay 15).trans rfl
theorem rl_L_stay_16 : (am_pg z_L_stay).2 16 = some (.ireturn, 17, 0, 0, 0, 0, 0, []) := (congrFun pm_L_stay 16).trans rfl
theorem rl_L_stay_17 : (am_pg z_L_stay).2 17 = some (.aload_n 0, 18, 0, 0, 0, 0, 0, []) := (congrFun pm_L_stay 17).trans rfl
theorem rl_L_stay_18 : (am_pg z_L_stay).2 18 = some (.getfield 10, 21, 8, 0, 0, 67, 0, []) := (congrFun pm_L_stay 18).trans rfl
theorem rl_L_stay_21 : (am_pg z_L_stay).2 21 = some (.getfield 95, 24, 6, 0, 0, 24, 0, []) := (congrFun pm_L_stay 21).trans rfl
theorem rl_L_stay_24 : (am_pg z_L_stay).2 24 = some (.iload_n 1, 25, 1, 0, 0, 0, 0, []) := (congrFun pm_L_stay 24).trans rfl
theorem rl_L_stay_25 : (am_pg z_L_stay).2 25 = some (.iload_n 2, 26, 2, 0, 0, 0, 0, []) := (congrFun pm_L_stay 25).trans rfl
theorem rl_L_stay_26 : (am_pg z_L_stay).2 26 = some (.iload_n 3, 27, 3, 0, 0, 0, 0, []) := (congrFun pm_L_stay 26).trans rfl
theorem rl_L_stay_27 : (am_pg z_L_stay).2 27 = some (.invokevirtual 109, 30, 236, 3, 1, 35, 0, []) := (congrFun pm_L_stay 27).trans rfl
theorem rl_L_stay_30 : (am_pg z_L_stay).2 30 = some (.ireturn, 31, 0, 0, 0, 0, 0, []) := (congrFun pm_L_stay 30).trans rfl
theorem rl_L_home_0 : (am_pg z_L_home).2 0 = some (.iload_n 1, 1, 1, 0, 0, 0, 0, []) := (congrFun pm_L_home 0).trans rfl
theorem rl_L_home_1 : (am_pg z_L_home).2 1 = some (.invokestatic 113, 4, 69, 1, 0, 37, 0, []) := (congrFun pm_L_home 1).trans rfl
theorem rl_L_home_4 : (am_pg z_L_home).2 4 = some (.ifCond .eq (11), 7, 15, 0, 0, 0, 0, []) := (congrFun pm_L_home 4).trans rfl
theorem rl_L_home_7 : (am_pg z_L_home).2 7 = some (.iload_n 2, 8, 2, 0, 0, 0, 0, []) := (congrFun pm_L_home 7).trans rfl
theorem rl_L_home_8 : (am_pg z_L_home).2 8 = some (.iload_n 3, 9, 3, 0, 0, 0, 0, []) := (congrFun pm_L_home 8).trans rfl
theorem rl_L_home_9 : (am_pg z_L_home).2 9 = some (.invokestatic 105, 12, 67, 2, 0, 33, 0, []) := (congrFun pm_L_home 9).trans rfl
theorem rl_L_home_12 : (am_pg z_L_home).2 12 = some (.ifCond .ne (5), 15, 17, 0, 0, 0, 0, []) := (congrFun pm_L_home 12).trans rfl
theorem rl_L_home_15 : (am_pg z_L_home).2 15 = some (.iconst (-1), 16, 0, 0, 0, 0, -1, []) := (congrFun pm_L_home 15).trans rfl
theorem rl_L_home_16 : (am_pg z_L_home).2 16 = some (.ireturn, 17, 0, 0, 0, 0, 0, []) := (congrFun pm_L_home 16).trans rfl
theorem rl_L_home_17 : (am_pg z_L_home).2 17 = some (.iconst (0), 18, 0, 0, 0, 0, 0, []) := (congrFun pm_L_home 17).trans rfl
theorem rl_L_home_18 : (am_pg z_L_home).2 18 = some (.istore 5, 20, 5, 0, 0, 0, 0, []) := (congrFun pm_L_home 18).trans rfl
theorem rl_L_home_20 : (am_pg z_L_home).2 20 = some (.iload_n 2, 21, 2, 0, 0, 0, 0, []) := (congrFun pm_L_home 20).trans rfl
theorem rl_L_home_21 : (am_pg z_L_home).2 21 = some (.istore 6, 23, 6, 0, 0, 0, 0, []) := (congrFun pm_L_home 21).trans rfl
theorem rl_L_home_23 : (am_pg z_L_home).2 23 = some (.iload 6, 25, 6, 0, 0, 0, 0, []) := (congrFun pm_L_home 23).trans rfl
theorem rl_L_home_25 : (am_pg z_L_home).2 25 = some (.iload_n 3, 26, 3, 0, 0, 0, 0, []) := (congrFun pm_L_home 25).trans rfl
theorem rl_L_home_26 : (am_pg z_L_home).2 26 = some (.if_icmp .gt (43), 29, 69, 0, 0, 0, 0, []) := (congrFun pm_L_home 26).trans rfl
theorem rl_L_home_29 : (am_pg z_L_home).2 29 = some (.aload_n 0, 30, 0, 0, 0, 0, 0, []) := (congrFun pm_L_home 29).trans rfl
theorem rl_L_home_30 : (am_pg z_L_home).2 30 = some (.getfield 10, 33, 8, 0, 0, 67, 0, []) := (congrFun pm_L_home 30).trans rfl
theorem rl_L_home_33 : (am_pg z_L_home).2 33 = some (.iload_n 1, 34, 1, 0, 0, 0, 0, []) := (congrFun pm_L_home 33).trans rfl
theorem rl_L_home_34 : (am_pg z_L_home).2 34 = some (.iload 6, 36, 6, 0, 0, 0, 0, []) := (congrFun pm_L_home 34).trans rfl
theorem rl_L_home_36 : (am_pg z_L_home).2 36 = some (.invokevirtual 116, 39, 280, 2, 6, 38, 0, []) := (congrFun pm_L_home 36).trans rfl
theorem rl_L_home_39 : (am_pg z_L_home).2 39 = some (.iload 4, 41, 4, 0, 0, 0, 0, []) := (congrFun pm_L_home 39).trans rfl
theorem rl_L_home_41 : (am_pg z_L_home).2 41 = some (.if_icmp .eq (22), 44, 63, 0, 0, 0, 0, []) := (congrFun pm_L_home 41).trans rfl
theorem rl_L_home_44 : (am_pg z_L_home).2 44 = some (.aload_n 0, 45, 0, 0, 0, 0, 0, []) := (congrFun pm_L_home 44).trans rfl
theorem rl_L_home_45 : (am_pg z_L_home).2 45 = some (.getfield 10, 48, 8, 0, 0, 67, 0, []) := (congrFun pm_L_home 45).trans rfl
theorem rl_L_home_48 : (am_pg z_L_home).2 48 = some (.getfield 119, 51, 6, 3, 0, 32, 0, []) := (congrFun pm_L_home 48).trans rfl
theorem rl_L_home_51 : (am_pg z_L_home).2 51 = some (.iload 6, 53, 6, 0, 0, 0, 0, []) := (congrFun pm_L_home 51).trans rfl
theorem rl_L_home_53 : (am_pg z_L_home).2 53 = some (.dup2, 54, 0, 0, 0, 0, 0, []) := (congrFun pm_L_home 53).trans rfl
theorem rl_L_home_54 : (am_pg z_L_home).2 54 = some (.iaload, 55, 0, 0, 0, 0, 0, []) := (congrFun pm_L_home 54).trans rfl
theorem rl_L_home_55 : (am_pg z_L_home).2 55 = some (.iconst (1), 56, 0, 0, 0, 0, 1, []) := (congrFun pm_L_home 55).trans rfl
theorem rl_L_home_56 : (am_pg z_L_home).2 56 = some (.iload_n 1, 57, 1, 0, 0, 0, 0, []) := (congrFun pm_L_home 56).trans rfl
theorem rl_L_home_57 : (am_pg z_L_home).2 57 = some (.ishl, 58, 0, 0, 0, 0, 0, []) := (congrFun pm_L_home 57).trans rfl
theorem rl_L_home_58 : (am_pg z_L_home).2 58 = some (.ixor, 59, 0, 0, 0, 0, 0, []) := (congrFun pm_L_home 58).trans rfl
theorem rl_L_home_59 : (am_pg z_L_home).2 59 = some (.iastore, 60, 0, 0, 0, 0, 0, []) := (congrFun pm_L_home 59).trans rfl
theorem rl_L_home_60 : (am_pg z_L_home).2 60 = some (.iinc 5 (1), 63, 5, 0, 0, 0, 1, []) := (congrFun pm_L_home 60).trans rfl
theorem rl_L_home_63 : (am_pg z_L_home).2 63 = some (.iinc 6 (1), 66, 6, 0, 0, 0, 1, []) := (congrFun pm_L_home 63).trans rfl
theorem rl_L_home_66 : (am_pg z_L_home).2 66 = some (.goto (-43), 69, 23, 0, 0, 0, 0, []) := (congrFun pm_L_home 66).trans rfl
theorem rl_L_home_69 : (am_pg z_L_home).2 69 = some (.iload 5, 71, 5, 0, 0, 0, 0, []) := (congrFun pm_L_home 69).trans rfl
theorem rl_L_home_71 : (am_pg z_L_home).2 71 = some (.ireturn, 72, 0, 0, 0, 0, 0, []) := (congrFun pm_L_home 71).trans rfl
theorem rl_L_centre_0 : (am_pg z_L_centre).2 0 = some (.iload_n 1, 1, 1, 0, 0, 0, 0, []) := (congrFun pm_L_centre 0).trans rfl
theorem rl_L_centre_1 : (am_pg z_L_centre).2 1 = some (.invokestatic 102, 4, 70, 1, 0, 32, 0, []) := (congrFun pm_L_centre 1).trans rfl
theorem rl_L_centre_4 : (am_pg z_L_centre).2 4 = some (.ifCond .eq (11), 7, 15, 0, 0, 0, 0, []) := (congrFun pm_L_centre 4).trans rfl
theorem rl_L_centre_7 : (am_pg z_L_centre).2 7 = some (.iload_n 2, 8, 2, 0, 0, 0, 0, []) := (congrFun pm_L_centre 7).trans rfl
theorem rl_L_centre_8 : (am_pg z_L_centre).2 8 = some (.iload_n 3, 9, 3, 0, 0, 0, 0, []) := (congrFun pm_L_centre 8).trans rfl
theorem rl_L_centre_9 : (am_pg z_L_centre).2 9 = some (.invokestatic 105, 12, 67, 2, 0, 33, 0, []) := (congrFun pm_L_centre 9).trans rfl
theorem rl_L_centre_12 : (am_pg z_L_centre).2 12 = some (.ifCond .ne (5), 15, 17, 0, 0, 0, 0, []) := (congrFun pm_L_centre 12).trans rfl
theorem rl_L_centre_15 : (am_pg z_L_centre).2 15 = some (.iconst (-1), 16, 0, 0, 0, 0, -1, []) := (congrFun pm_L_centre 15).trans rfl
theorem rl_L_centre_16 : (am_pg z_L_centre).2 16 = some (.ireturn, 17, 0, 0, 0, 0, 0, []) := (congrFun pm_L_centre 16).trans rfl
theorem rl_L_centre_17 : (am_pg z_L_centre).2 17 = some (.aload_n 0, 18, 0, 0, 0, 0, 0, []) := (congrFun pm_L_centre 17).trans rfl
theorem rl_L_centre_18 : (am_pg z_L_centre).2 18 = some (.getfield 10, 21, 8, 0, 0, 67, 0, []) := (congrFun pm_L_centre 18).trans rfl
theorem rl_L_centre_21 : (am_pg z_L_centre).2 21 = some (.getfield 122, 24, 6, 1, 0, 27, 0, []) := (congrFun pm_L_centre 21).trans rfl
theorem rl_L_centre_24 : (am_pg z_L_centre).2 24 = some (.iload_n 1, 25, 1, 0, 0, 0, 0, []) := (congrFun pm_L_centre 24).trans rfl
theorem rl_L_centre_25 : (am_pg z_L_centre).2 25 = some (.iload_n 2, 26, 2, 0, 0, 0, 0, []) := (congrFun pm_L_centre 25).trans rfl
theorem rl_L_centre_26 : (am_pg z_L_centre).2 26 = some (.iload_n 3, 27, 3, 0, 0, 0, 0, []) := (congrFun pm_L_centre 26).trans rfl
theorem rl_L_centre_27 : (am_pg z_L_centre).2 27 = some (.invokevirtual 109, 30, 236, 3, 1, 35, 0, []) := (congrFun pm_L_centre 27).trans rfl
theorem rl_L_centre_30 : (am_pg z_L_centre).2 30 = some (.ireturn, 31, 0, 0, 0, 0, 0, []) := (congrFun pm_L_centre 30).trans rfl
theorem rl_L_nation_0 : (am_pg z_L_nation).2 0 = some (.iload_n 1, 1, 1, 0, 0, 0, 0, []) := (congrFun pm_L_nation 0).trans rfl
theorem rl_L_nation_1 : (am_pg z_L_nation).2 1 = some (.invokestatic 113, 4, 69, 1, 0, 37, 0, []) := (congrFun pm_L_nation 1).trans rfl
theorem rl_L_nation_4 : (am_pg z_L_nation).2 4 = some (.ifCond .eq (18), 7, 22, 0, 0, 0, 0, []) := (congrFun pm_L_nation 4).trans rfl
theorem rl_L_nation_7 : (am_pg z_L_nation).2 7 = some (.aload_n 0, 8, 0, 0, 0, 0, 0, []) := (congrFun pm_L_nation 7).trans rfl
theorem rl_L_nation_8 : (am_pg z_L_nation).2 8 = some (.getfield 10, 11, 8, 0, 0, 67, 0, []) := (congrFun pm_L_nation 8).trans rfl
theorem rl_L_nation_11 : (am_pg z_L_nation).2 11 = some (.getfield 62, 14, 6, 4, 0, 35, 0, []) := (congrFun pm_L_nation 11).trans rfl
theorem rl_L_nation_14 : (am_pg z_L_nation).2 14 = some (.iload_n 1, 15, 1, 0, 0, 0, 0, []) := (congrFun pm_L_nation 14).trans rfl
theorem rl_L_nation_15 : (am_pg z_L_nation).2 15 = some (.invokevirtual 125, 18, 269, 1, 4, 42, 0, []) := (congrFun pm_L_nation 15).trans rfl
theorem rl_L_nation_18 : (am_pg z_L_nation).2 18 = some (.iload_n 2, 19, 2, 0, 0, 0, 0, []) := (congrFun pm_L_nation 18).trans rfl
theorem rl_L_nation_19 : (am_pg z_L_nation).2 19 = some (.if_icmp .ne (5), 22, 24, 0, 0, 0, 0, []) := (congrFun pm_L_nation 19).trans rfl
theorem rl_L_nation_22 : (am_pg z_L_nation).2 22 = some (.iconst (0), 23, 0, 0, 0, 0, 0, []) := (congrFun pm_L_nation 22).trans rfl
theorem rl_L_nation_23 : (am_pg z_L_nation).2 23 = some (.ireturn, 24, 0, 0, 1, 0, 0, []) := (congrFun pm_L_nation 23).trans rfl
theorem rl_L_nation_24 : (am_pg z_L_nation).2 24 = some (.aload_n 0, 25, 0, 0, 0, 0, 0, []) := (congrFun pm_L_nation 24).trans rfl
theorem rl_L_nation_25 : (am_pg z_L_nation).2 25 = some (.getfield 10, 28, 8, 0, 0, 67, 0, []) := (congrFun pm_L_nation 25).trans rfl
theorem rl_L_nation_28 : (am_pg z_L_nation).2 28 = some (.getfield 62, 31, 6, 4, 0, 35, 0, []) := (congrFun pm_L_nation 28).trans rfl
theorem rl_L_nation_31 : (am_pg z_L_nation).2 31 = some (.dup, 32, 0, 0, 0, 0, 0, []) := (congrFun pm_L_nation 31).trans rfl
theorem rl_L_nation_32 : (am_pg z_L_nation).2 32 = some (.getfield 130, 35, 4, 7, 0, 21, 0, []) := (congrFun pm_L_nation 32).trans rfl
theorem rl_L_nation_35 : (am_pg z_L_nation).2 35 = some (.iconst (1), 36, 0, 0, 0, 0, 1, []) := (congrFun pm_L_nation 35).trans rfl
theorem rl_L_nation_36 : (am_pg z_L_nation).2 36 = some (.iload_n 1, 37, 1, 0, 0, 0, 0, []) := (congrFun pm_L_nation 36).trans rfl
theorem rl_L_nation_37 : (am_pg z_L_nation).2 37 = some (.ishl, 38, 0, 0, 0, 0, 0, []) := (congrFun pm_L_nation 37).trans rfl
theorem rl_L_nation_38 : (am_pg z_L_nation).2 38 = some (.ixor, 39, 0, 0, 0, 0, 0, []) := (congrFun pm_L_nation 38).trans rfl
theorem rl_L_nation_39 : (am_pg z_L_nation).2 39 = some (.putfield 130, 42, 4, 7, 0, 21, 0, []) := (congrFun pm_L_nation 39).trans rfl
theorem rl_L_nation_42 : (am_pg z_L_nation).2 42 = some (.iconst (1), 43, 0, 0, 0, 0, 1, []) := (congrFun pm_L_nation 42).trans rfl
theorem rl_L_nation_43 : (am_pg z_L_nation).2 43 = some (.ireturn, 44, 0, 0, 1, 0, 0, []) := (congrFun pm_L_nation 43).trans rfl
theorem rl_L_drawn_0 : (am_pg z_L_drawn).2 0 = some (.iload_n 2, 1, 2, 0, 0, 0, 0, []) := (congrFun pm_L_drawn 0).trans rfl
theorem rl_L_drawn_1 : (am_pg z_L_drawn).2 1 = some (.iconst (1), 2, 0, 0, 0, 0, 1, []) := (congrFun pm_L_drawn 1).trans rfl
theorem rl_L_drawn_2 : (am_pg z_L_drawn).2 2 = some (.bipush (100), 4, 0, 0, 0, 0, 100, []) := (congrFun pm_L_drawn 2).trans rfl
theorem rl_L_drawn_4 : (am_pg z_L_drawn).2 4 = some (.invokestatic 133, 7, 65, 3, 0, 16, 0, []) := (congrFun pm_L_drawn 4).trans rfl
theorem rl_L_drawn_7 : (am_pg z_L_drawn).2 7 = some (.ifCond .eq (14), 10, 21, 0, 0, 0, 0, []) := (congrFun pm_L_drawn 7).trans rfl
theorem rl_L_drawn_10 : (am_pg z_L_drawn).2 10 = some (.iload_n 3, 11, 3, 0, 0, 0, 0, []) := (congrFun pm_L_drawn 10).trans rfl
theorem rl_L_drawn_11 : (am_pg z_L_drawn).2 11 = some (.iconst (1), 12, 0, 0, 0, 0, 1, []) := (congrFun pm_L_drawn 11).trans rfl
theorem rl_L_drawn_12 : (am_pg z_L_drawn).2 12 = some (.sipush (360), 15, 0, 0, 0, 0, 360, []) := (congrFun pm_L_drawn 12).trans rfl
theorem rl_L_drawn_15 : (am_pg z_L_drawn).2 15 = some (.invokestatic 133, 18, 65, 3, 0, 16, 0, []) := (congrFun pm_L_drawn 15).trans rfl
theorem rl_L_drawn_18 : (am_pg z_L_drawn).2 18 = some (.ifCond .ne (5), 21, 23, 0, 0, 0, 0, []) := (congrFun pm_L_drawn 18).trans rfl
theorem rl_L_drawn_21 : (am_pg z_L_drawn).2 21 = some (.iconst (-1), 22, 0, 0, 0, 0, -1, []) := (congrFun pm_L_drawn 21).trans rfl
theorem rl_L_drawn_22 : (am_pg z_L_drawn).2 22 = some (.ireturn, 23, 0, 0, 0, 0, 0, []) := (congrFun pm_L_drawn 22).trans rfl
theorem rl_L_drawn_23 : (am_pg z_L_drawn).2 23 = some (.aload_n 0, 24, 0, 0, 0, 0, 0, []) := (congrFun pm_L_drawn 23).trans rfl
theorem rl_L_drawn_24 : (am_pg z_L_drawn).2 24 = some (.getfield 10, 27, 8, 0, 0, 67, 0, []) := (congrFun pm_L_drawn 24).trans rfl
theorem rl_L_drawn_27 : (am_pg z_L_drawn).2 27 = some (.getfield 95, 30, 6, 0, 0, 24, 0, []) := (congrFun pm_L_drawn 27).trans rfl
theorem rl_L_drawn_30 : (am_pg z_L_drawn).2 30 = some (.iconst (-1), 31, 0, 0, 0, 0, -1, []) := (congrFun pm_L_drawn 30).trans rfl
theorem rl_L_drawn_31 : (am_pg z_L_drawn).2 31 = some (.iconst (0), 32, 0, 0, 0, 0, 0, []) := (congrFun pm_L_drawn 31).trans rfl
theorem rl_L_drawn_32 : (am_pg z_L_drawn).2 32 = some (.sipush (1079), 35, 0, 0, 0, 0, 1079, []) := (congrFun pm_L_drawn 32).trans rfl
theorem rl_L_drawn_35 : (am_pg z_L_drawn).2 35 = some (.invokevirtual 109, 38, 236, 3, 1, 35, 0, []) := (congrFun pm_L_drawn 35).trans rfl
theorem rl_L_drawn_38 : (am_pg z_L_drawn).2 38 = some (.pop, 39, 0, 0, 0, 0, 0, []) := (congrFun pm_L_drawn 38).trans rfl
theorem rl_L_drawn_39 : (am_pg z_L_drawn).2 39 = some (.iload_n 1, 40, 1, 0, 0, 0, 0, []) := (congrFun pm_L_drawn 39).trans rfl
theorem rl_L_drawn_40 : (am_pg z_L_drawn).2 40 = some (.ldc 137, 42, 0, 0, 0, 0, 65535, []) := (congrFun pm_L_drawn 40).trans rfl
theorem rl_L_drawn_42 : (am_pg z_L_drawn).2 42 = some (.iand, 43, 0, 0, 0, 0, 0, []) := (congrFun pm_L_drawn 42).trans rfl
theorem rl_L_drawn_43 : (am_pg z_L_drawn).2 43 = some (.istore 4, 45, 4, 0, 0, 0, 0, []) := (congrFun pm_L_drawn 43).trans rfl
theorem rl_L_drawn_45 : (am_pg z_L_drawn).2 45 = some (.iconst (0), 46, 0, 0, 0, 0, 0, []) := (congrFun pm_L_drawn 45).trans rfl
theorem rl_L_drawn_46 : (am_pg z_L_drawn).2 46 = some (.istore 5, 48, 5, 0, 0, 0, 0, []) := (congrFun pm_L_drawn 46).trans rfl
theorem rl_L_drawn_48 : (am_pg z_L_drawn).2 48 = some (.iconst (0), 49, 0, 0, 0, 0, 0, []) := (congrFun pm_L_drawn 48).trans rfl
theorem rl_L_drawn_49 : (am_pg z_L_drawn).2 49 = some (.istore 6, 51, 6, 0, 0, 0, 0, []) := (congrFun pm_L_drawn 49).trans rfl
theorem rl_L_drawn_51 : (am_pg z_L_drawn).2 51 = some (.iload 6, 53, 6, 0, 0, 0, 0, []) := (congrFun pm_L_drawn 51).trans rfl
theorem rl_L_drawn_53 : (am_pg z_L_drawn).2 53 = some (.iload_n 2, 54, 2, 0, 0, 0, 0, []) := (congrFun pm_L_drawn 53).trans rfl
theorem rl_L_drawn_54 : (am_pg z_L_drawn).2 54 = some (.if_icmp .ge (84), 57, 138, 0, 0, 0, 0, []) := (congrFun pm_L_drawn 54).trans rfl
theorem rl_L_drawn_57 : (am_pg z_L_drawn).2 57 = some (.iload 5, 59, 5, 0, 0, 0, 0, []) := (congrFun pm_L_drawn 57).trans rfl
theorem rl_L_drawn_59 : (am_pg z_L_drawn).2 59 = some (.sipush (1080), 62, 0, 0, 0, 0, 1080, []) := (congrFun pm_L_drawn 59).trans rfl
theorem rl_L_drawn_62 : (am_pg z_L_drawn).2 62 = some (.if_icmp .ge (76), 65, 138, 0, 0, 0, 0, []) := (congrFun pm_L_drawn 62).trans rfl
theorem rl_L_drawn_65 : (am_pg z_L_drawn).2 65 = some (.iload 4, 67, 4, 0, 0, 0, 0, []) := (congrFun pm_L_drawn 65).trans rfl
theorem rl_L_drawn_67 : (am_pg z_L_drawn).2 67 = some (.invokestatic 138, 70, 79, 1, 0, 45, 0, []) := (congrFun pm_L_drawn 67).trans rfl
theorem rl_L_drawn_70 : (am_pg z_L_drawn).2 70 = some (.istore 4, 72, 4, 0, 0, 0, 0, []) := (congrFun pm_L_drawn 70).trans rfl
theorem rl_L_drawn_72 : (am_pg z_L_drawn).2 72 = some (.iload 4, 74, 4, 0, 0, 0, 0, []) := (congrFun pm_L_drawn 72).trans rfl
theorem rl_L_drawn_74 : (am_pg z_L_drawn).2 74 = some (.iconst (4), 75, 0, 0, 0, 0, 4, []) := (congrFun pm_L_drawn 74).trans rfl
theorem rl_L_drawn_75 : (am_pg z_L_drawn).2 75 = some (.idiv, 76, 0, 0, 0, 0, 0, []) := (congrFun pm_L_drawn 75).trans rfl
theorem rl_L_drawn_76 : (am_pg z_L_drawn).2 76 = some (.bipush (7), 78, 0, 0, 0, 0, 7, []) := (congrFun pm_L_drawn 76).trans rfl
theorem rl_L_drawn_78 : (am_pg z_L_drawn).2 78 = some (.irem, 79, 0, 0, 0, 0, 0, []) := (congrFun pm_L_drawn 78).trans rfl
theorem rl_L_drawn_79 : (am_pg z_L_drawn).2 79 = some (.iconst (1), 80, 0, 0, 0, 0, 1, []) := (congrFun pm_L_drawn 79).trans rfl
theorem rl_L_drawn_80 : (am_pg z_L_drawn).2 80 = some (.isub, 81, 0, 0, 0, 0, 0, []) := (congrFun pm_L_drawn 80).trans rfl
theorem rl_L_drawn_81 : (am_pg z_L_drawn).2 81 = some (.istore 7, 83, 7, 0, 0, 0, 0, []) := (congrFun pm_L_drawn 81).trans rfl
theorem rl_L_drawn_83 : (am_pg z_L_drawn).2 83 = some (.iload 4, 85, 4, 0, 0, 0, 0, []) := (congrFun pm_L_drawn 83).trans rfl
theorem rl_L_drawn_85 : (am_pg z_L_drawn).2 85 = some (.invokestatic 138, 88, 79, 1, 0, 45, 0, []) := (congrFun pm_L_drawn 85).trans rfl
theorem rl_L_drawn_88 : (am_pg z_L_drawn).2 88 = some (.istore 4, 90, 4, 0, 0, 0, 0, []) := (congrFun pm_L_drawn 88).trans rfl
theorem rl_L_drawn_90 : (am_pg z_L_drawn).2 90 = some (.iload 5, 92, 5, 0, 0, 0, 0, []) := (congrFun pm_L_drawn 90).trans rfl
theorem rl_L_drawn_92 : (am_pg z_L_drawn).2 92 = some (.iload 4, 94, 4, 0, 0, 0, 0, []) := (congrFun pm_L_drawn 92).trans rfl
theorem rl_L_drawn_94 : (am_pg z_L_drawn).2 94 = some (.iconst (4), 95, 0, 0, 0, 0, 4, []) := (congrFun pm_L_drawn 94).trans rfl
theorem rl_L_drawn_95 : (am_pg z_L_drawn).2 95 = some (.idiv, 96, 0, 0, 0, 0, 0, []) := (congrFun pm_L_drawn 95).trans rfl
theorem rl_L_drawn_96 : (am_pg z_L_drawn).2 96 = some (.iload_n 3, 97, 3, 0, 0, 0, 0, []) := (congrFun pm_L_drawn 96).trans rfl
theorem rl_L_drawn_97 : (am_pg z_L_drawn).2 97 = some (.irem, 98, 0, 0, 0, 0, 0, []) := (congrFun pm_L_drawn 97).trans rfl
theorem rl_L_drawn_98 : (am_pg z_L_drawn).2 98 = some (.iadd, 99, 0, 0, 0, 0, 0, []) := (congrFun pm_L_drawn 98).trans rfl
theorem rl_L_drawn_99 : (am_pg z_L_drawn).2 99 = some (.iconst (1), 100, 0, 0, 0, 0, 1, []) := (congrFun pm_L_drawn 99).trans rfl
theorem rl_L_drawn_100 : (am_pg z_L_drawn).2 100 = some (.iadd, 101, 0, 0, 0, 0, 0, []) := (congrFun pm_L_drawn 100).trans rfl
theorem rl_L_drawn_101 : (am_pg z_L_drawn).2 101 = some (.sipush (1080), 104, 0, 0, 0, 0, 1080, []) := (congrFun pm_L_drawn 101).trans rfl
theorem rl_L_drawn_104 : (am_pg z_L_drawn).2 104 = some (.invokestatic 141, 107, 0, 2, 3, 2, 0, []) := (congrFun pm_L_drawn 104).trans rfl
theorem rl_L_drawn_107 : (am_pg z_L_drawn).2 107 = some (.istore 8, 109, 8, 0, 0, 0, 0, []) := (congrFun pm_L_drawn 107).trans rfl
theorem rl_L_drawn_109 : (am_pg z_L_drawn).2 109 = some (.aload_n 0, 110, 0, 0, 0, 0, 0, []) := (congrFun pm_L_drawn 109).trans rfl
theorem rl_L_drawn_110 : (am_pg z_L_drawn).2 110 = some (.getfield 10, 113, 8, 0, 0, 67, 0, []) := (congrFun pm_L_drawn 110).trans rfl
theorem rl_L_drawn_113 : (am_pg z_L_drawn).2 113 = some (.getfield 95, 116, 6, 0, 0, 24, 0, []) := (congrFun pm_L_drawn 113).trans rfl
theorem rl_L_drawn_116 : (am_pg z_L_drawn).2 116 = some (.iload 7, 118, 7, 0, 0, 0, 0, []) := (congrFun pm_L_drawn 116).trans rfl
theorem rl_L_drawn_118 : (am_pg z_L_drawn).2 118 = some (.iload 5, 120, 5, 0, 0, 0, 0, []) := (congrFun pm_L_drawn 118).trans rfl
theorem rl_L_drawn_120 : (am_pg z_L_drawn).2 120 = some (.iload 8, 122, 8, 0, 0, 0, 0, []) := (congrFun pm_L_drawn 120).trans rfl
theorem rl_L_drawn_122 : (am_pg z_L_drawn).2 122 = some (.iconst (1), 123, 0, 0, 0, 0, 1, []) := (congrFun pm_L_drawn 122).trans rfl
theorem rl_L_drawn_123 : (am_pg z_L_drawn).2 123 = some (.isub, 124, 0, 0, 0, 0, 0, []) := (congrFun pm_L_drawn 123).trans rfl
theorem rl_L_drawn_124 : (am_pg z_L_drawn).2 124 = some (.invokevirtual 109, 127, 236, 3, 1, 35, 0, []) := (congrFun pm_L_drawn 124).trans rfl
theorem rl_L_drawn_127 : (am_pg z_L_drawn).2 127 = some (.pop, 128, 0, 0, 0, 0, 0, []) := (congrFun pm_L_drawn 127).trans rfl
theorem rl_L_drawn_128 : (am_pg z_L_drawn).2 128 = some (.iload 8, 130, 8, 0, 0, 0, 0, []) := (congrFun pm_L_drawn 128).trans rfl
theorem rl_L_drawn_130 : (am_pg z_L_drawn).2 130 = some (.istore 5, 132, 5, 0, 0, 0, 0, []) := (congrFun pm_L_drawn 130).trans rfl
theorem rl_L_drawn_132 : (am_pg z_L_drawn).2 132 = some (.iinc 6 (1), 135, 6, 0, 0, 0, 1, []) := (congrFun pm_L_drawn 132).trans rfl
theorem rl_L_drawn_135 : (am_pg z_L_drawn).2 135 = some (.goto (-84), 138, 51, 0, 0, 0, 0, []) := (congrFun pm_L_drawn 135).trans rfl
theorem rl_L_drawn_138 : (am_pg z_L_drawn).2 138 = some (.iload 5, 140, 5, 0, 0, 0, 0, []) := (congrFun pm_L_drawn 138).trans rfl
theorem rl_L_drawn_140 : (am_pg z_L_drawn).2 140 = some (.ireturn, 141, 0, 0, 0, 0, 0, []) := (congrFun pm_L_drawn 140).trans rfl
theorem rl_L_at_0 : (am_pg z_L_at).2 0 = some (.iload_n 1, 1, 1, 0, 0, 0, 0, []) := (congrFun pm_L_at 0).trans rfl
theorem rl_L_at_1 : (am_pg z_L_at).2 1 = some (.invokestatic 147, 4, 66, 1, 0, 34, 0, []) := (congrFun pm_L_at 1).trans rfl
theorem rl_L_at_4 : (am_pg z_L_at).2 4 = some (.ifCond .eq (12), 7, 16, 0, 0, 0, 0, []) := (congrFun pm_L_at 4).trans rfl
theorem rl_L_at_7 : (am_pg z_L_at).2 7 = some (.iload_n 2, 8, 2, 0, 0, 0, 0, []) := (congrFun pm_L_at 7).trans rfl
theorem rl_L_at_8 : (am_pg z_L_at).2 8 = some (.iconst (0), 9, 0, 0, 0, 0, 0, []) := (congrFun pm_L_at 8).trans rfl
theorem rl_L_at_9 : (am_pg z_L_at).2 9 = some (.iconst (2), 10, 0, 0, 0, 0, 2, []) := (congrFun pm_L_at 9).trans rfl
theorem rl_L_at_10 : (am_pg z_L_at).2 10 = some (.invokestatic 133, 13, 65, 3, 0, 16, 0, []) := (congrFun pm_L_at 10).trans rfl
theorem rl_L_at_13 : (am_pg z_L_at).2 13 = some (.ifCond .ne (5), 16, 18, 0, 0, 0, 0, []) := (congrFun pm_L_at 13).trans rfl
theorem rl_L_at_16 : (am_pg z_L_at).2 16 = some (.iconst (-1), 17, 0, 0, 0, 0, -1, []) := (congrFun pm_L_at 16).trans rfl
theorem rl_L_at_17 : (am_pg z_L_at).2 17 = some (.ireturn, 18, 0, 0, 0, 0, 0, []) := (congrFun pm_L_at 17).trans rfl
theorem rl_L_at_18 : (am_pg z_L_at).2 18 = some (.iload_n 2, 19, 2, 0, 0, 0, 0, []) := (congrFun pm_L_at 18).trans rfl
theorem rl_L_at_19 : (am_pg z_L_at).2 19 = some (.iconst (2), 20, 0, 0, 0, 0, 2, []) := (congrFun pm_L_at 19).trans rfl
theorem rl_L_at_20 : (am_pg z_L_at).2 20 = some (.if_icmp .ne (13), 23, 33, 0, 0, 0, 0, []) := (congrFun pm_L_at 20).trans rfl
theorem rl_L_at_23 : (am_pg z_L_at).2 23 = some (.aload_n 0, 24, 0, 0, 0, 0, 0, []) := (congrFun pm_L_at 23).trans rfl
theorem rl_L_at_24 : (am_pg z_L_at).2 24 = some (.getfield 10, 27, 8, 0, 0, 67, 0, []) := (congrFun pm_L_at 24).trans rfl
theorem rl_L_at_27 : (am_pg z_L_at).2 27 = some (.getfield 119, 30, 6, 3, 0, 32, 0, []) := (congrFun pm_L_at 27).trans rfl
theorem rl_L_at_30 : (am_pg z_L_at).2 30 = some (.iload_n 1, 31, 1, 0, 0, 0, 0, []) := (congrFun pm_L_at 30).trans rfl
theorem rl_L_at_31 : (am_pg z_L_at).2 31 = some (.iaload, 32, 0, 0, 0, 0, 0, []) := (congrFun pm_L_at 31).trans rfl
theorem rl_L_at_32 : (am_pg z_L_at).2 32 = some (.ireturn, 33, 0, 0, 0, 0, 0, []) := (congrFun pm_L_at 32).trans rfl
theorem rl_L_at_33 : (am_pg z_L_at).2 33 = some (.iload_n 2, 34, 2, 0, 0, 0, 0, []) := (congrFun pm_L_at 33).trans rfl
theorem rl_L_at_34 : (am_pg z_L_at).2 34 = some (.ifCond .ne (17), 37, 51, 0, 0, 0, 0, []) := (congrFun pm_L_at 34).trans rfl
theorem rl_L_at_37 : (am_pg z_L_at).2 37 = some (.aload_n 0, 38, 0, 0, 0, 0, 0, []) := (congrFun pm_L_at 37).trans rfl
theorem rl_L_at_38 : (am_pg z_L_at).2 38 = some (.getfield 10, 41, 8, 0, 0, 67, 0, []) := (congrFun pm_L_at 38).trans rfl
theorem rl_L_at_41 : (am_pg z_L_at).2 41 = some (.getfield 95, 44, 6, 0, 0, 24, 0, []) := (congrFun pm_L_at 41).trans rfl
theorem rl_L_at_44 : (am_pg z_L_at).2 44 = some (.iload_n 1, 45, 1, 0, 0, 0, 0, []) := (congrFun pm_L_at 44).trans rfl
theorem rl_L_at_45 : (am_pg z_L_at).2 45 = some (.invokevirtual 150, 48, 237, 1, 1, 47, 0, []) := (congrFun pm_L_at 45).trans rfl
theorem rl_L_at_48 : (am_pg z_L_at).2 48 = some (.goto (14), 51, 62, 0, 0, 0, 0, []) := (congrFun pm_L_at 48).trans rfl
theorem rl_L_at_51 : (am_pg z_L_at).2 51 = some (.aload_n 0, 52, 0, 0, 0, 0, 0, []) := (congrFun pm_L_at 51).trans rfl
theorem rl_L_at_52 : (am_pg z_L_at).2 52 = some (.getfield 10, 55, 8, 0, 0, 67, 0, []) := (congrFun pm_L_at 52).trans rfl
theorem rl_L_at_55 : (am_pg z_L_at).2 55 = some (.getfield 122, 58, 6, 1, 0, 27, 0, []) := (congrFun pm_L_at 55).trans rfl
theorem rl_L_at_58 : (am_pg z_L_at).2 58 = some (.iload_n 1, 59, 1, 0, 0, 0, 0, []) := (congrFun pm_L_at 58).trans rfl
theorem rl_L_at_59 : (am_pg z_L_at).2 59 = some (.invokevirtual 150, 62, 237, 1, 1, 47, 0, []) := (congrFun pm_L_at 59).trans rfl
theorem rl_L_at_62 : (am_pg z_L_at).2 62 = some (.istore_n 3, 63, 3, 0, 0, 0, 0, []) := (congrFun pm_L_at 62).trans rfl
theorem rl_L_at_63 : (am_pg z_L_at).2 63 = some (.iload_n 3, 64, 3, 0, 0, 0, 0, []) := (congrFun pm_L_at 63).trans rfl
theorem rl_L_at_64 : (am_pg z_L_at).2 64 = some (.iconst (-1), 65, 0, 0, 0, 0, -1, []) := (congrFun pm_L_at 64).trans rfl
theorem rl_L_at_65 : (am_pg z_L_at).2 65 = some (.if_icmp .ne (8), 68, 73, 0, 0, 0, 0, []) := (congrFun pm_L_at 65).trans rfl
theorem rl_L_at_68 : (am_pg z_L_at).2 68 = some (.bipush (-2), 70, 0, 0, 0, 0, -2, []) := (congrFun pm_L_at 68).trans rfl
theorem rl_L_at_70 : (am_pg z_L_at).2 70 = some (.goto (4), 73, 74, 0, 0, 0, 0, []) := (congrFun pm_L_at 70).trans rfl
theorem rl_L_at_73 : (am_pg z_L_at).2 73 = some (.iload_n 3, 74, 3, 0, 0, 0, 0, []) := (congrFun pm_L_at 73).trans rfl
theorem rl_L_at_74 : (am_pg z_L_at).2 74 = some (.ireturn, 75, 0, 0, 0, 0, 0, []) := (congrFun pm_L_at 74).trans rfl
theorem rl_L_letter_0 : (am_pg z_L_letter).2 0 = some (.iload_n 1, 1, 1, 0, 0, 0, 0, []) := (congrFun pm_L_letter 0).trans rfl
theorem rl_L_letter_1 : (am_pg z_L_letter).2 1 = some (.iconst (-1), 2, 0, 0, 0, 0, -1, []) := (congrFun pm_L_letter 1).trans rfl
theorem rl_L_letter_2 : (am_pg z_L_letter).2 2 = some (.if_icmp .ge (5), 5, 7, 0, 0, 0, 0, []) := (congrFun pm_L_letter 2).trans rfl
theorem rl_L_letter_5 : (am_pg z_L_letter).2 5 = some (.iconst (-1), 6, 0, 0, 0, 0, -1, []) := (congrFun pm_L_letter 5).trans rfl
theorem rl_L_letter_6 : (am_pg z_L_letter).2 6 = some (.ireturn, 7, 0, 0, 0, 0, 0, []) := (congrFun pm_L_letter 6).trans rfl
theorem rl_L_letter_7 : (am_pg z_L_letter).2 7 = some (.aload_n 0, 8, 0, 0, 0, 0, 0, []) := (congrFun pm_L_letter 7).trans rfl
theorem rl_L_letter_8 : (am_pg z_L_letter).2 8 = some (.getfield 47, 11, 8, 5, 0, 72, 0, []) := (congrFun pm_L_letter 8).trans rfl
theorem rl_L_letter_11 : (am_pg z_L_letter).2 11 = some (.aload_n 0, 12, 0, 0, 0, 0, 0, []) := (congrFun pm_L_letter 11).trans rfl
theorem rl_L_letter_12 : (am_pg z_L_letter).2 12 = some (.getfield 10, 15, 8, 0, 0, 67, 0, []) := (congrFun pm_L_letter 12).trans rfl
theorem rl_L_letter_15 : (am_pg z_L_letter).2 15 = some (.getfield 95, 18, 6, 0, 0, 24, 0, []) := (congrFun pm_L_letter 15).trans rfl
theorem rl_L_letter_18 : (am_pg z_L_letter).2 18 = some (.iload_n 1, 19, 1, 0, 0, 0, 0, []) := (congrFun pm_L_letter 18).trans rfl
theorem rl_L_letter_19 : (am_pg z_L_letter).2 19 = some (.invokevirtual 153, 22, 274, 2, 5, 49, 0, []) := (congrFun pm_L_letter 19).trans rfl
theorem rl_L_letter_22 : (am_pg z_L_letter).2 22 = some (.iload_n 1, 23, 1, 0, 0, 0, 0, []) := (congrFun pm_L_letter 22).trans rfl
theorem rl_L_letter_23 : (am_pg z_L_letter).2 23 = some (.iconst (-1), 24, 0, 0, 0, 0, -1, []) := (congrFun pm_L_letter 23).trans rfl
theorem rl_L_letter_24 : (am_pg z_L_letter).2 24 = some (.if_icmp .ne (11), 27, 35, 0, 0, 0, 0, []) := (congrFun pm_L_letter 24).trans rfl
theorem rl_L_letter_27 : (am_pg z_L_letter).2 27 = some (.aload_n 0, 28, 0, 0, 0, 0, 0, []) := (congrFun pm_L_letter 27).trans rfl
theorem rl_L_letter_28 : (am_pg z_L_letter).2 28 = some (.getfield 47, 31, 8, 5, 0, 72, 0, []) := (congrFun pm_L_letter 28).trans rfl
theorem rl_L_letter_31 : (am_pg z_L_letter).2 31 = some (.getfield 157, 34, 5, 0, 0, 51, 0, []) := (congrFun pm_L_letter 31).trans rfl
theorem rl_L_letter_34 : (am_pg z_L_letter).2 34 = some (.ireturn, 35, 0, 0, 0, 0, 0, []) := (congrFun pm_L_letter 34).trans rfl
theorem rl_L_letter_35 : (am_pg z_L_letter).2 35 = some (.iload_n 1, 36, 1, 0, 0, 0, 0, []) := (congrFun pm_L_letter 35).trans rfl
theorem rl_L_letter_36 : (am_pg z_L_letter).2 36 = some (.aload_n 0, 37, 0, 0, 0, 0, 0, []) := (congrFun pm_L_letter 36).trans rfl
theorem rl_L_letter_37 : (am_pg z_L_letter).2 37 = some (.getfield 47, 40, 8, 5, 0, 72, 0, []) := (congrFun pm_L_letter 37).trans rfl
theorem rl_L_letter_40 : (am_pg z_L_letter).2 40 = some (.getfield 157, 43, 5, 0, 0, 51, 0, []) := (congrFun pm_L_letter 40).trans rfl
theorem rl_L_letter_43 : (am_pg z_L_letter).2 43 = some (.if_icmp .ge (13), 46, 56, 0, 0, 0, 0, []) := (congrFun pm_L_letter 43).trans rfl
theorem rl_L_letter_46 : (am_pg z_L_letter).2 46 = some (.aload_n 0, 47, 0, 0, 0, 0, 0, []) := (congrFun pm_L_letter 46).trans rfl
theorem rl_L_letter_47 : (am_pg z_L_letter).2 47 = some (.getfield 47, 50, 8, 5, 0, 72, 0, []) := (congrFun pm_L_letter 47).trans rfl
theorem rl_L_letter_50 : (am_pg z_L_letter).2 50 = some (.getfield 160, 53, 5, 2, 0, 54, 0, []) := (congrFun pm_L_letter 50).trans rfl
theorem rl_L_letter_53 : (am_pg z_L_letter).2 53 = some (.goto (5), 56, 58, 0, 0, 0, 0, []) := (congrFun pm_L_letter 53).trans rfl
theorem rl_L_letter_56 : (am_pg z_L_letter).2 56 = some (.bipush (-2), 58, 0, 0, 0, 0, -2, []) := (congrFun pm_L_letter 56).trans rfl
theorem rl_L_letter_58 : (am_pg z_L_letter).2 58 = some (.ireturn, 59, 0, 0, 0, 0, 0, []) := (congrFun pm_L_letter 58).trans rfl
theorem rl_L_window_0 : (am_pg z_L_window).2 0 = some (.iload_n 1, 1, 1, 0, 0, 0, 0, []) := (congrFun pm_L_window 0).trans rfl
theorem rl_L_window_1 : (am_pg z_L_window).2 1 = some (.invokestatic 113, 4, 69, 1, 0, 37, 0, []) := (congrFun pm_L_window 1).trans rfl
theorem rl_L_window_4 : (am_pg z_L_window).2 4 = some (.ifCond .eq (23), 7, 27, 0, 0, 0, 0, []) := (congrFun pm_L_window 4).trans rfl
theorem rl_L_window_7 : (am_pg z_L_window).2 7 = some (.iload_n 2, 8, 2, 0, 0, 0, 0, []) := (congrFun pm_L_window 7).trans rfl
theorem rl_L_window_8 : (am_pg z_L_window).2 8 = some (.iconst (0), 9, 0, 0, 0, 0, 0, []) := (congrFun pm_L_window 8).trans rfl
theorem rl_L_window_9 : (am_pg z_L_window).2 9 = some (.sipush (360), 12, 0, 0, 0, 0, 360, []) := (congrFun pm_L_window 9).trans rfl
theorem rl_L_window_12 : (am_pg z_L_window).2 12 = some (.invokestatic 133, 15, 65, 3, 0, 16, 0, []) := (congrFun pm_L_window 12).trans rfl
theorem rl_L_window_15 : (am_pg z_L_window).2 15 = some (.ifCond .eq (12), 18, 27, 0, 0, 0, 0, []) := (congrFun pm_L_window 15).trans rfl
theorem rl_L_window_18 : (am_pg z_L_window).2 18 = some (.iload_n 3, 19, 3, 0, 0, 0, 0, []) := (congrFun pm_L_window 18).trans rfl
theorem rl_L_window_19 : (am_pg z_L_window).2 19 = some (.iconst (0), 20, 0, 0, 0, 0, 0, []) := (congrFun pm_L_window 19).trans rfl
theorem rl_L_window_20 : (am_pg z_L_window).2 20 = some (.iload_n 2, 21, 2, 0, 0, 0, 0, []) := (congrFun pm_L_window 20).trans rfl
theorem rl_L_window_21 : (am_pg z_L_window).2 21 = some (.invokestatic 133, 24, 65, 3, 0, 16, 0, []) := (congrFun pm_L_window 21).trans rfl
theorem rl_L_window_24 : (am_pg z_L_window).2 24 = some (.ifCond .ne (5), 27, 29, 0, 0, 0, 0, []) := (congrFun pm_L_window 24).trans rfl
theorem rl_L_window_27 : (am_pg z_L_window).2 27 = some (.iconst (-1), 28, 0, 0, 0, 0, -1, []) := (congrFun pm_L_window 27).trans rfl
theorem rl_L_window_28 : (am_pg z_L_window).2 28 = some (.ireturn, 29, 0, 0, 0, 0, 0, []) := (congrFun pm_L_window 28).trans rfl
theorem rl_L_window_29 : (am_pg z_L_window).2 29 = some (.aload_n 0, 30, 0, 0, 0, 0, 0, []) := (congrFun pm_L_window 29).trans rfl
theorem rl_L_window_30 : (am_pg z_L_window).2 30 = some (.getfield 10, 33, 8, 0, 0, 67, 0, []) := (congrFun pm_L_window 30).trans rfl
theorem rl_L_window_33 : (am_pg z_L_window).2 33 = some (.getfield 62, 36, 6, 4, 0, 35, 0, []) := (congrFun pm_L_window 33).trans rfl
theorem rl_L_window_36 : (am_pg z_L_window).2 36 = some (.getfield 163, 39, 4, 0, 0, 6, 0, []) := (congrFun pm_L_window 36).trans rfl
theorem rl_L_window_39 : (am_pg z_L_window).2 39 = some (.iload_n 1, 40, 1, 0, 0, 0, 0, []) := (congrFun pm_L_window 39).trans rfl
theorem rl_L_window_40 : (am_pg z_L_window).2 40 = some (.iaload, 41, 0, 0, 0, 0, 0, []) := (congrFun pm_L_window 40).trans rfl
theorem rl_L_window_41 : (am_pg z_L_window).2 41 = some (.istore 4, 43, 4, 0, 0, 0, 0, []) := (congrFun pm_L_window 41).trans rfl
theorem rl_L_window_43 : (am_pg z_L_window).2 43 = some (.aload_n 0, 44, 0, 0, 0, 0, 0, []) := (congrFun pm_L_window 43).trans rfl
theorem rl_L_window_44 : (am_pg z_L_window).2 44 = some (.getfield 10, 47, 8, 0, 0, 67, 0, []) := (congrFun pm_L_window 44).trans rfl
theorem rl_L_window_47 : (am_pg z_L_window).2 47 = some (.getfield 62, 50, 6, 4, 0, 35, 0, []) := (congrFun pm_L_window 47).trans rfl
theorem rl_L_window_50 : (am_pg z_L_window).2 50 = some (.getfield 163, 53, 4, 0, 0, 6, 0, []) := (congrFun pm_L_window 50).trans rfl
theorem rl_L_window_53 : (am_pg z_L_window).2 53 = some (.iload_n 1, 54, 1, 0, 0, 0, 0, []) := (congrFun pm_L_window 53).trans rfl
theorem rl_L_window_54 : (am_pg z_L_window).2 54 = some (.iload_n 2, 55, 2, 0, 0, 0, 0, []) := (congrFun pm_L_window 54).trans rfl
theorem rl_L_window_55 : (am_pg z_L_window).2 55 = some (.iastore, 56, 0, 0, 0, 0, 0, []) := (congrFun pm_L_window 55).trans rfl
theorem rl_L_window_56 : (am_pg z_L_window).2 56 = some (.aload_n 0, 57, 0, 0, 0, 0, 0, []) := (congrFun pm_L_window 56).trans rfl
theorem rl_L_window_57 : (am_pg z_L_window).2 57 = some (.getfield 10, 60, 8, 0, 0, 67, 0, []) := (congrFun pm_L_window 57).trans rfl
theorem rl_L_window_60 : (am_pg z_L_window).2 60 = some (.getfield 62, 63, 6, 4, 0, 35, 0, []) := (congrFun pm_L_window 60).trans rfl
theorem rl_L_window_63 : (am_pg z_L_window).2 63 = some (.getfield 166, 66, 4, 1, 0, 9, 0, []) := (congrFun pm_L_window 63).trans rfl
theorem rl_L_window_66 : (am_pg z_L_window).2 66 = some (.iload_n 1, 67, 1, 0, 0, 0, 0, []) := (congrFun pm_L_window 66).trans rfl
theorem rl_L_window_67 : (am_pg z_L_window).2 67 = some (.iload_n 3, 68, 3, 0, 0, 0, 0, []) := (congrFun pm_L_window 67).trans rfl
theorem rl_L_window_68 : (am_pg z_L_window).2 68 = some (.iastore, 69, 0, 0, 0, 0, 0, []) := (congrFun pm_L_window 68).trans rfl
theorem rl_L_window_69 : (am_pg z_L_window).2 69 = some (.iload 4, 71, 4, 0, 0, 0, 0, []) := (congrFun pm_L_window 69).trans rfl
theorem rl_L_window_71 : (am_pg z_L_window).2 71 = some (.ireturn, 72, 0, 0, 0, 0, 0, []) := (congrFun pm_L_window 71).trans rfl
theorem rl_L_rule_0 : (am_pg z_L_rule).2 0 = some (.iload_n 1, 1, 1, 0, 0, 0, 0, []) := (congrFun pm_L_rule 0).trans rfl
theorem rl_L_rule_1 : (am_pg z_L_rule).2 1 = some (.invokestatic 113, 4, 69, 1, 0, 37, 0, []) := (congrFun pm_L_rule 1).trans rfl
theorem rl_L_rule_4 : (am_pg z_L_rule).2 4 = some (.ifCond .eq (21), 7, 25, 0, 0, 0, 0, []) := (congrFun pm_L_rule 4).trans rfl
theorem rl_L_rule_7 : (am_pg z_L_rule).2 7 = some (.iload_n 2, 8, 2, 0, 0, 0, 0, []) := (congrFun pm_L_rule 7).trans rfl
theorem rl_L_rule_8 : (am_pg z_L_rule).2 8 = some (.invokestatic 169, 11, 72, 1, 0, 59, 0, []) := (congrFun pm_L_rule 8).trans rfl
theorem rl_L_rule_11 : (am_pg z_L_rule).2 11 = some (.ifCond .eq (14), 14, 25, 0, 0, 0, 0, []) := (congrFun pm_L_rule 11).trans rfl
theorem rl_L_rule_14 : (am_pg z_L_rule).2 14 = some (.iload_n 3, 15, 3, 0, 0, 0, 0, []) := (congrFun pm_L_rule 14).trans rfl
theorem rl_L_rule_15 : (am_pg z_L_rule).2 15 = some (.iconst (0), 16, 0, 0, 0, 0, 0, []) := (congrFun pm_L_rule 15).trans rfl
theorem rl_L_rule_16 : (am_pg z_L_rule).2 16 = some (.sipush (360), 19, 0, 0, 0, 0, 360, []) := (congrFun pm_L_rule 16).trans rfl
theorem rl_L_rule_19 : (am_pg z_L_rule).2 19 = some (.invokestatic 133, 22, 65, 3, 0, 16, 0, []) := (congrFun pm_L_rule 19).trans rfl
theorem rl_L_rule_22 : (am_pg z_L_rule).2 22 = some (.ifCond .ne (5), 25, 27, 0, 0, 0, 0, []) := (congrFun pm_L_rule 22).trans rfl
theorem rl_L_rule_25 : (am_pg z_L_rule).2 25 = some (.iconst (-1), 26, 0, 0, 0, 0, -1, []) := (congrFun pm_L_rule 25).trans rfl
theorem rl_L_rule_26 : (am_pg z_L_rule).2 26 = some (.ireturn, 27, 0, 0, 0, 0, 0, []) := (congrFun pm_L_rule 26).trans rfl
theorem rl_L_rule_27 : (am_pg z_L_rule).2 27 = some (.aload_n 0, 28, 0, 0, 0, 0, 0, []) := (congrFun pm_L_rule 27).trans rfl
theorem rl_L_rule_28 : (am_pg z_L_rule).2 28 = some (.getfield 10, 31, 8, 0, 0, 67, 0, []) := (congrFun pm_L_rule 28).trans rfl
theorem rl_L_rule_31 : (am_pg z_L_rule).2 31 = some (.getfield 62, 34, 6, 4, 0, 35, 0, []) := (congrFun pm_L_rule 31).trans rfl
theorem rl_L_rule_34 : (am_pg z_L_rule).2 34 = some (.iload_n 1, 35, 1, 0, 0, 0, 0, []) := (congrFun pm_L_rule 34).trans rfl
theorem rl_L_rule_35 : (am_pg z_L_rule).2 35 = some (.iload_n 2, 36, 2, 0, 0, 0, 0, []) := (congrFun pm_L_rule 35).trans rfl
theorem rl_L_rule_36 : (am_pg z_L_rule).2 36 = some (.invokevirtual 172, 39, 268, 2, 4, 60, 0, []) := (congrFun pm_L_rule 36).trans rfl
theorem rl_L_rule_39 : (am_pg z_L_rule).2 39 = some (.istore 4, 41, 4, 0, 0, 0, 0, []) := (congrFun pm_L_rule 39).trans rfl
theorem rl_L_rule_41 : (am_pg z_L_rule).2 41 = some (.aload_n 0, 42, 0, 0, 0, 0, 0, []) := (congrFun pm_L_rule 41).trans rfl
theorem rl_L_rule_42 : (am_pg z_L_rule).2 42 = some (.getfield 10, 45, 8, 0, 0, 67, 0, []) := (congrFun pm_L_rule 42).trans rfl
theorem rl_L_rule_45 : (am_pg z_L_rule).2 45 = some (.getfield 62, 48, 6, 4, 0, 35, 0, []) := (congrFun pm_L_rule 45).trans rfl
theorem rl_L_rule_48 : (am_pg z_L_rule).2 48 = some (.getfield 175, 51, 4, 2, 0, 11, 0, []) := (congrFun pm_L_rule 48).trans rfl
theorem rl_L_rule_51 : (am_pg z_L_rule).2 51 = some (.iload_n 1, 52, 1, 0, 0, 0, 0, []) := (congrFun pm_L_rule 51).trans rfl
theorem rl_L_rule_52 : (am_pg z_L_rule).2 52 = some (.iconst (3), 53, 0, 0, 0, 0, 3, []) := (congrFun pm_L_rule 52).trans rfl
theorem rl_L_rule_53 : (am_pg z_L_rule).2 53 = some (.imul, 54, 0, 0, 0, 0, 0, []) := (congrFun pm_L_rule 53).trans rfl
theorem rl_L_rule_54 : (am_pg z_L_rule).2 54 = some (.iload_n 2, 55, 2, 0, 0, 0, 0, []) := (congrFun pm_L_rule 54).trans rfl
theorem rl_L_rule_55 : (am_pg z_L_rule).2 55 = some (.iadd, 56, 0, 0, 0, 0, 0, []) := (congrFun pm_L_rule 55).trans rfl
theorem rl_L_rule_56 : (am_pg z_L_rule).2 56 = some (.iload_n 3, 57, 3, 0, 0, 0, 0, []) := (congrFun pm_L_rule 56).trans rfl
theorem rl_L_rule_57 : (am_pg z_L_rule).2 57 = some (.iastore, 58, 0, 0, 0, 0, 0, []) := (congrFun pm_L_rule 57).trans rfl
theorem rl_L_rule_58 : (am_pg z_L_rule).2 58 = some (.iload 4, 60, 4, 0, 0, 0, 0, []) := (congrFun pm_L_rule 58).trans rfl
theorem rl_L_rule_60 : (am_pg z_L_rule).2 60 = some (.ireturn, 61, 0, 0, 0, 0, 0, []) := (congrFun pm_L_rule 60).trans rfl
theorem rl_L_order_0 : (am_pg z_L_order).2 0 = some (.iload_n 1, 1, 1, 0, 0, 0, 0, []) := (congrFun pm_L_order 0).trans rfl
theorem rl_L_order_1 : (am_pg z_L_order).2 1 = some (.invokestatic 113, 4, 69, 1, 0, 37, 0, []) := (congrFun pm_L_order 1).trans rfl
theorem rl_L_order_4 : (am_pg z_L_order).2 4 = some (.ifCond .eq (11), 7, 15, 0, 0, 0, 0, []) := (congrFun pm_L_order 4).trans rfl
theorem rl_L_order_7 : (am_pg z_L_order).2 7 = some (.aload_n 0, 8, 0, 0, 0, 0, 0, []) := (congrFun pm_L_order 7).trans rfl
theorem rl_L_order_8 : (am_pg z_L_order).2 8 = some (.iload_n 2, 9, 2, 0, 0, 0, 0, []) := (congrFun pm_L_order 8).trans rfl
theorem rl_L_order_9 : (am_pg z_L_order).2 9 = some (.invokevirtual 178, 12, 64, 1, 8, 62, 0, []) := (congrFun pm_L_order 9).trans rfl
theorem rl_L_order_12 : (am_pg z_L_order).2 12 = some (.ifCond .ne (5), 15, 17, 0, 0, 0, 0, []) := (congrFun pm_L_order 12).trans rfl
theorem rl_L_order_15 : (am_pg z_L_order).2 15 = some (.iconst (0), 16, 0, 0, 0, 0, 0, []) := (congrFun pm_L_order 15).trans rfl
theorem rl_L_order_16 : (am_pg z_L_order).2 16 = some (.ireturn, 17, 0, 0, 1, 0, 0, []) := (congrFun pm_L_order 16).trans rfl
theorem rl_L_order_17 : (am_pg z_L_order).2 17 = some (.aload_n 0, 18, 0, 0, 0, 0, 0, []) := (congrFun pm_L_order 17).trans rfl
theorem rl_L_order_18 : (am_pg z_L_order).2 18 = some (.getfield 27, 21, 8, 3, 0, 70, 0, []) := (congrFun pm_L_order 18).trans rfl
theorem rl_L_order_21 : (am_pg z_L_order).2 21 = some (.iload_n 2, 22, 2, 0, 0, 0, 0, []) := (congrFun pm_L_order 21).trans rfl
theorem rl_L_order_22 : (am_pg z_L_order).2 22 = some (.invokevirtual 181, 25, 284, 1, 7, 63, 0, []) := (congrFun pm_L_order 22).trans rfl
theorem rl_L_order_25 : (am_pg z_L_order).2 25 = some (.istore_n 3, 26, 3, 0, 0, 0, 0, []) := (congrFun pm_L_order 25).trans rfl
theorem rl_L_order_26 : (am_pg z_L_order).2 26 = some (.iload_n 3, 27, 3, 0, 0, 0, 0, []) := (congrFun pm_L_order 26).trans rfl
theorem rl_L_order_27 : (am_pg z_L_order).2 27 = some (.iconst (-1), 28, 0, 0, 0, 0, -1, []) := (congrFun pm_L_order 27).trans rfl
theorem rl_L_order_28 : (am_pg z_L_order).2 28 = some (.if_icmp .ne (5), 31, 33, 0, 0, 0, 0, []) := (congrFun pm_L_order 28).trans rfl
theorem rl_L_order_31 : (am_pg z_L_order).2 31 = some (.iconst (0), 32, 0, 0, 0, 0, 0, []) := (congrFun pm_L_order 31).trans rfl
theorem rl_L_order_32 : (am_pg z_L_order).2 32 = some (.ireturn, 33, 0, 0, 1, 0, 0, []) := (congrFun pm_L_order 32).trans rfl
theorem rl_L_order_33 : (am_pg z_L_order).2 33 = some (.aload_n 0, 34, 0, 0, 0, 0, 0, []) := (congrFun pm_L_order 33).trans rfl
theorem rl_L_order_34 : (am_pg z_L_order).2 34 = some (.getfield 10, 37, 8, 0, 0, 67, 0, []) := (congrFun pm_L_order 34).trans rfl
theorem rl_L_order_37 : (am_pg z_L_order).2 37 = some (.getfield 62, 40, 6, 4, 0, 35, 0, []) := (congrFun pm_L_order 37).trans rfl
theorem rl_L_order_40 : (am_pg z_L_order).2 40 = some (.getfield 184, 43, 4, 5, 0, 18, 0, []) := (congrFun pm_L_order 40).trans rfl
theorem rl_L_order_43 : (am_pg z_L_order).2 43 = some (.iload_n 1, 44, 1, 0, 0, 0, 0, []) := (congrFun pm_L_order 43).trans rfl
theorem rl_L_order_44 : (am_pg z_L_order).2 44 = some (.iload_n 3, 45, 3, 0, 0, 0, 0, []) := (congrFun pm_L_order 44).trans rfl
theorem rl_L_order_45 : (am_pg z_L_order).2 45 = some (.iastore, 46, 0, 0, 0, 0, 0, []) := (congrFun pm_L_order 45).trans rfl
theorem rl_L_order_46 : (am_pg z_L_order).2 46 = some (.iconst (1), 47, 0, 0, 0, 0, 1, []) := (congrFun pm_L_order 46).trans rfl
theorem rl_L_order_47 : (am_pg z_L_order).2 47 = some (.ireturn, 48, 0, 0, 1, 0, 0, []) := (congrFun pm_L_order 47).trans rfl
theorem rl_L_entries_0 : (am_pg z_L_entries).2 0 = some (.iload_n 1, 1, 1, 0, 0, 0, 0, []) := (congrFun pm_L_entries 0).trans rfl
theorem rl_L_entries_1 : (am_pg z_L_entries).2 1 = some (.invokestatic 113, 4, 69, 1, 0, 37, 0, []) := (congrFun pm_L_entries 1).trans rfl
theorem rl_L_entries_4 : (am_pg z_L_entries).2 4 = some (.ifCond .eq (13), 7, 17, 0, 0, 0, 0, []) := (congrFun pm_L_entries 4).trans rfl
theorem rl_L_entries_7 : (am_pg z_L_entries).2 7 = some (.iload_n 2, 8, 2, 0, 0, 0, 0, []) := (congrFun pm_L_entries 7).trans rfl
theorem rl_L_entries_8 : (am_pg z_L_entries).2 8 = some (.iconst (0), 9, 0, 0, 0, 0, 0, []) := (congrFun pm_L_entries 8).trans rfl
theorem rl_L_entries_9 : (am_pg z_L_entries).2 9 = some (.bipush (100), 11, 0, 0, 0, 0, 100, []) := (congrFun pm_L_entries 9).trans rfl
theorem rl_L_entries_11 : (am_pg z_L_entries).2 11 = some (.invokestatic 133, 14, 65, 3, 0, 16, 0, []) := (congrFun pm_L_entries 11).trans rfl
theorem rl_L_entries_14 : (am_pg z_L_entries).2 14 = some (.ifCond .ne (5), 17, 19, 0, 0, 0, 0, []) := (congrFun pm_L_entries 14).trans rfl
theorem rl_L_entries_17 : (am_pg z_L_entries).2 17 = some (.iconst (-1), 18, 0, 0, 0, 0, -1, []) := (congrFun pm_L_entries 17).trans rfl
theorem rl_L_entries_18 : (am_pg z_L_entries).2 18 = some (.ireturn, 19, 0, 0, 0, 0, 0, []) := (congrFun pm_L_entries 18).trans rfl
theorem rl_L_entries_19 : (am_pg z_L_entries).2 19 = some (.aload_n 0, 20, 0, 0, 0, 0, 0, []) := (congrFun pm_L_entries 19).trans rfl
theorem rl_L_entries_20 : (am_pg z_L_entries).2 20 = some (.getfield 10, 23, 8, 0, 0, 67, 0, []) := (congrFun pm_L_entries 20).trans rfl
theorem rl_L_entries_23 : (am_pg z_L_entries).2 23 = some (.getfield 62, 26, 6, 4, 0, 35, 0, []) := (congrFun pm_L_entries 23).trans rfl
theorem rl_L_entries_26 : (am_pg z_L_entries).2 26 = some (.getfield 187, 29, 4, 4, 0, 16, 0, []) := (congrFun pm_L_entries 26).trans rfl
theorem rl_L_entries_29 : (am_pg z_L_entries).2 29 = some (.iload_n 1, 30, 1, 0, 0, 0, 0, []) := (congrFun pm_L_entries 29).trans rfl
theorem rl_L_entries_30 : (am_pg z_L_entries).2 30 = some (.iaload, 31, 0, 0, 0, 0, 0, []) := (congrFun pm_L_entries 30).trans rfl
theorem rl_L_entries_31 : (am_pg z_L_entries).2 31 = some (.istore_n 3, 32, 3, 0, 0, 0, 0, []) := (congrFun pm_L_entries 31).trans rfl
theorem rl_L_entries_32 : (am_pg z_L_entries).2 32 = some (.aload_n 0, 33, 0, 0, 0, 0, 0, []) := (congrFun pm_L_entries 32).trans rfl
theorem rl_L_entries_33 : (am_pg z_L_entries).2 33 = some (.getfield 10, 36, 8, 0, 0, 67, 0, []) := (congrFun pm_L_entries 33).trans rfl
theorem rl_L_entries_36 : (am_pg z_L_entries).2 36 = some (.getfield 62, 39, 6, 4, 0, 35, 0, []) := (congrFun pm_L_entries 36).trans rfl
theorem rl_L_entries_39 : (am_pg z_L_entries).2 39 = some (.getfield 187, 42, 4, 4, 0, 16, 0, []) := (congrFun pm_L_entries 39).trans rfl
theorem rl_L_entries_42 : (am_pg z_L_entries).2 42 = some (.iload_n 1, 43, 1, 0, 0, 0, 0, []) := (congrFun pm_L_entries 42).trans rfl
theorem rl_L_entries_43 : (am_pg z_L_entries).2 43 = some (.iload_n 2, 44, 2, 0, 0, 0, 0, []) := (congrFun pm_L_entries 43).trans rfl
theorem rl_L_entries_44 : (am_pg z_L_entries).2 44 = some (.iastore, 45, 0, 0, 0, 0, 0, []) := (congrFun pm_L_entries 44).trans rfl
theorem rl_L_entries_45 : (am_pg z_L_entries).2 45 = some (.iload_n 3, 46, 3, 0, 0, 0, 0, []) := (congrFun pm_L_entries 45).trans rfl
theorem rl_L_entries_46 : (am_pg z_L_entries).2 46 = some (.ireturn, 47, 0, 0, 0, 0, 0, []) := (congrFun pm_L_entries 46).trans rfl
theorem rl_L_entered_0 : (am_pg z_L_entered).2 0 = some (.iload_n 1, 1, 1, 0, 0, 0, 0, []) := (congrFun pm_L_entered 0).trans rfl
theorem rl_L_entered_1 : (am_pg z_L_entered).2 1 = some (.invokestatic 113, 4, 69, 1, 0, 37, 0, []) := (congrFun pm_L_entered 1).trans rfl
theorem rl_L_entered_4 : (am_pg z_L_entered).2 4 = some (.ifCond .eq (19), 7, 23, 0, 0, 0, 0, []) := (congrFun pm_L_entered 4).trans rfl
theorem rl_L_entered_7 : (am_pg z_L_entered).2 7 = some (.iload_n 2, 8, 2, 0, 0, 0, 0, []) := (congrFun pm_L_entered 7).trans rfl
theorem rl_L_entered_8 : (am_pg z_L_entered).2 8 = some (.invokestatic 190, 11, 68, 1, 0, 70, 0, []) := (congrFun pm_L_entered 8).trans rfl
theorem rl_L_entered_11 : (am_pg z_L_entered).2 11 = some (.ifCond .eq (12), 14, 23, 0, 0, 0, 0, []) := (congrFun pm_L_entered 11).trans rfl
theorem rl_L_entered_14 : (am_pg z_L_entered).2 14 = some (.iload_n 3, 15, 3, 0, 0, 0, 0, []) := (congrFun pm_L_entered 14).trans rfl
theorem rl_L_entered_15 : (am_pg z_L_entered).2 15 = some (.iconst (0), 16, 0, 0, 0, 0, 0, []) := (congrFun pm_L_entered 15).trans rfl
theorem rl_L_entered_16 : (am_pg z_L_entered).2 16 = some (.iconst (2), 17, 0, 0, 0, 0, 2, []) := (congrFun pm_L_entered 16).trans rfl
theorem rl_L_entered_17 : (am_pg z_L_entered).2 17 = some (.invokestatic 133, 20, 65, 3, 0, 16, 0, []) := (congrFun pm_L_entered 17).trans rfl
theorem rl_L_entered_20 : (am_pg z_L_entered).2 20 = some (.ifCond .ne (5), 23, 25, 0, 0, 0, 0, []) := (congrFun pm_L_entered 20).trans rfl
theorem rl_L_entered_23 : (am_pg z_L_entered).2 23 = some (.iconst (-1), 24, 0, 0, 0, 0, -1, []) := (congrFun pm_L_entered 23).trans rfl
theorem rl_L_entered_24 : (am_pg z_L_entered).2 24 = some (.ireturn, 25, 0, 0, 0, 0, 0, []) := (congrFun pm_L_entered 24).trans rfl
theorem rl_L_entered_25 : (am_pg z_L_entered).2 25 = some (.aload_n 0, 26, 0, 0, 0, 0, 0, []) := (congrFun pm_L_entered 25).trans rfl
theorem rl_L_entered_26 : (am_pg z_L_entered).2 26 = some (.getfield 10, 29, 8, 0, 0, 67, 0, []) := (congrFun pm_L_entered 26).trans rfl
theorem rl_L_entered_29 : (am_pg z_L_entered).2 29 = some (.getfield 62, 32, 6, 4, 0, 35, 0, []) := (congrFun pm_L_entered 29).trans rfl
theorem rl_L_entered_32 : (am_pg z_L_entered).2 32 = some (.getfield 187, 35, 4, 4, 0, 16, 0, []) := (congrFun pm_L_entered 32).trans rfl
theorem rl_L_entered_35 : (am_pg z_L_entered).2 35 = some (.iload_n 1, 36, 1, 0, 0, 0, 0, []) := (congrFun pm_L_entered 35).trans rfl
theorem rl_L_entered_36 : (am_pg z_L_entered).2 36 = some (.iaload, 37, 0, 0, 0, 0, 0, []) := (congrFun pm_L_entered 36).trans rfl
theorem rl_L_entered_37 : (am_pg z_L_entered).2 37 = some (.istore 4, 39, 4, 0, 0, 0, 0, []) := (congrFun pm_L_entered 37).trans rfl
theorem rl_L_entered_39 : (am_pg z_L_entered).2 39 = some (.iconst (0), 40, 0, 0, 0, 0, 0, []) := (congrFun pm_L_entered 39).trans rfl
theorem rl_L_entered_40 : (am_pg z_L_entered).2 40 = some (.istore 5, 42, 5, 0, 0, 0, 0, []) := (congrFun pm_L_entered 40).trans rfl
theorem rl_L_entered_42 : (am_pg z_L_entered).2 42 = some (.bipush (-2), 44, 0, 0, 0, 0, -2, []) := (congrFun pm_L_entered 42).trans rfl
theorem rl_L_entered_44 : (am_pg z_L_entered).2 44 = some (.istore 6, 46, 6, 0, 0, 0, 0, []) := (congrFun pm_L_entered 44).trans rfl
theorem rl_L_entered_46 : (am_pg z_L_entered).2 46 = some (.iload_n 2, 47, 2, 0, 0, 0, 0, []) := (congrFun pm_L_entered 46).trans rfl
theorem rl_L_entered_47 : (am_pg z_L_entered).2 47 = some (.invokestatic 193, 50, 75, 1, 0, 71, 0, []) := (congrFun pm_L_entered 47).trans rfl
theorem rl_L_entered_50 : (am_pg z_L_entered).2 50 = some (.istore 7, 52, 7, 0, 0, 0, 0, []) := (congrFun pm_L_entered 50).trans rfl
theorem rl_L_entered_52 : (am_pg z_L_entered).2 52 = some (.iload 7, 54, 7, 0, 0, 0, 0, []) := (congrFun pm_L_entered 52).trans rfl
theorem rl_L_entered_54 : (am_pg z_L_entered).2 54 = some (.iload_n 2, 55, 2, 0, 0, 0, 0, []) := (congrFun pm_L_entered 54).trans rfl
theorem rl_L_entered_55 : (am_pg z_L_entered).2 55 = some (.invokestatic 196, 58, 76, 1, 0, 72, 0, []) := (congrFun pm_L_entered 55).trans rfl
theorem rl_L_entered_58 : (am_pg z_L_entered).2 58 = some (.if_icmp .gt (61), 61, 119, 0, 0, 0, 0, []) := (congrFun pm_L_entered 58).trans rfl
theorem rl_L_entered_61 : (am_pg z_L_entered).2 61 = some (.aload_n 0, 62, 0, 0, 0, 0, 0, []) := (congrFun pm_L_entered 61).trans rfl
theorem rl_L_entered_62 : (am_pg z_L_entered).2 62 = some (.getfield 10, 65, 8, 0, 0, 67, 0, []) := (congrFun pm_L_entered 62).trans rfl
theorem rl_L_entered_65 : (am_pg z_L_entered).2 65 = some (.getfield 95, 68, 6, 0, 0, 24, 0, []) := (congrFun pm_L_entered 65).trans rfl
theorem rl_L_entered_68 : (am_pg z_L_entered).2 68 = some (.iload 7, 70, 7, 0, 0, 0, 0, []) := (congrFun pm_L_entered 68).trans rfl
theorem rl_L_entered_70 : (am_pg z_L_entered).2 70 = some (.invokevirtual 150, 73, 237, 1, 1, 47, 0, []) := (congrFun pm_L_entered 70).trans rfl
theorem rl_L_entered_73 : (am_pg z_L_entered).2 73 = some (.iload_n 1, 74, 1, 0, 0, 0, 0, []) := (congrFun pm_L_entered 73).trans rfl
theorem rl_L_entered_74 : (am_pg z_L_entered).2 74 = some (.if_icmp .ne (39), 77, 113, 0, 0, 0, 0, []) := (congrFun pm_L_entered 74).trans rfl
theorem rl_L_entered_77 : (am_pg z_L_entered).2 77 = some (.aload_n 0, 78, 0, 0, 0, 0, 0, []) := (congrFun pm_L_entered 77).trans rfl
theorem rl_L_entered_78 : (am_pg z_L_entered).2 78 = some (.getfield 10, 81, 8, 0, 0, 67, 0, []) := (congrFun pm_L_entered 78).trans rfl
theorem rl_L_entered_81 : (am_pg z_L_entered).2 81 = some (.getfield 95, 84, 6, 0, 0, 24, 0, []) := (congrFun pm_L_entered 81).trans rfl
theorem rl_L_entered_84 : (am_pg z_L_entered).2 84 = some (.iload 7, 86, 7, 0, 0, 0, 0, []) := (congrFun pm_L_entered 84).trans rfl
theorem rl_L_entered_86 : (am_pg z_L_entered).2 86 = some (.invokevirtual 199, 89, 238, 1, 1, 73, 0, []) := (congrFun pm_L_entered 86).trans rfl
theorem rl_L_entered_89 : (am_pg z_L_entered).2 89 = some (.ifCond .eq (24), 92, 113, 0, 0, 0, 0, []) := (congrFun pm_L_entered 89).trans rfl
theorem rl_L_entered_92 : (am_pg z_L_entered).2 92 = some (.iinc 5 (1), 95, 5, 0, 0, 0, 1, []) := (congrFun pm_L_entered 92).trans rfl
theorem rl_L_entered_95 : (am_pg z_L_entered).2 95 = some (.iload 4, 97, 4, 0, 0, 0, 0, []) := (congrFun pm_L_entered 95).trans rfl
theorem rl_L_entered_97 : (am_pg z_L_entered).2 97 = some (.ifCond .le (16), 100, 113, 0, 0, 0, 0, []) := (congrFun pm_L_entered 97).trans rfl
theorem rl_L_entered_100 : (am_pg z_L_entered).2 100 = some (.iload 5, 102, 5, 0, 0, 0, 0, []) := (congrFun pm_L_entered 100).trans rfl
theorem rl_L_entered_102 : (am_pg z_L_entered).2 102 = some (.iload 4, 104, 4, 0, 0, 0, 0, []) := (congrFun pm_L_entered 102).trans rfl
theorem rl_L_entered_104 : (am_pg z_L_entered).2 104 = some (.iconst (1), 105, 0, 0, 0, 0, 1, []) := (congrFun pm_L_entered 104).trans rfl
theorem rl_L_entered_105 : (am_pg z_L_entered).2 105 = some (.iadd, 106, 0, 0, 0, 0, 0, []) := (congrFun pm_L_entered 105).trans rfl
theorem rl_L_entered_106 : (am_pg z_L_entered).2 106 = some (.if_icmp .ne (7), 109, 113, 0, 0, 0, 0, []) := (congrFun pm_L_entered 106).trans rfl
theorem rl_L_entered_109 : (am_pg z_L_entered).2 109 = some (.iload 7, 111, 7, 0, 0, 0, 0, []) := (congrFun pm_L_entered 109).trans rfl
theorem rl_L_entered_111 : (am_pg z_L_entered).2 111 = some (.istore 6, 113, 6, 0, 0, 0, 0, []) := (congrFun pm_L_entered 111).trans rfl
theorem rl_L_entered_113 : (am_pg z_L_entered).2 113 = some (.iinc 7 (1), 116, 7, 0, 0, 0, 1, []) := (congrFun pm_L_entered 113).trans rfl
theorem rl_L_entered_116 : (am_pg z_L_entered).2 116 = some (.goto (-64), 119, 52, 0, 0, 0, 0, []) := (congrFun pm_L_entered 116).trans rfl
theorem rl_L_entered_119 : (am_pg z_L_entered).2 119 = some (.iload_n 3, 120, 3, 0, 0, 0, 0, []) := (congrFun pm_L_entered 119).trans rfl
theorem rl_L_entered_120 : (am_pg z_L_entered).2 120 = some (.ifCond .ne (6), 123, 126, 0, 0, 0, 0, []) := (congrFun pm_L_entered 120).trans rfl
theorem rl_L_entered_123 : (am_pg z_L_entered).2 123 = some (.iload 5, 125, 5, 0, 0, 0, 0, []) := (congrFun pm_L_entered 123).trans rfl
theorem rl_L_entered_125 : (am_pg z_L_entered).2 125 = some (.ireturn, 126, 0, 0, 0, 0, 0, []) := (congrFun pm_L_entered 125).trans rfl
theorem rl_L_entered_126 : (am_pg z_L_entered).2 126 = some (.iload_n 3, 127, 3, 0, 0, 0, 0, []) := (congrFun pm_L_entered 126).trans rfl
theorem rl_L_entered_127 : (am_pg z_L_entered).2 127 = some (.iconst (1), 128, 0, 0, 0, 0, 1, []) := (congrFun pm_L_entered 127).trans rfl
theorem rl_L_entered_128 : (am_pg z_L_entered).2 128 = some (.if_icmp .ne (22), 131, 150, 0, 0, 0, 0, []) := (congrFun pm_L_entered 128).trans rfl
theorem rl_L_entered_131 : (am_pg z_L_entered).2 131 = some (.iload 4, 133, 4, 0, 0, 0, 0, []) := (congrFun pm_L_entered 131).trans rfl
theorem rl_L_entered_133 : (am_pg z_L_entered).2 133 = some (.ifCond .le (15), 136, 148, 0, 0, 0, 0, []) := (congrFun pm_L_entered 133).trans rfl
theorem rl_L_entered_136 : (am_pg z_L_entered).2 136 = some (.iload 5, 138, 5, 0, 0, 0, 0, []) := (congrFun pm_L_entered 136).trans rfl
theorem rl_L_entered_138 : (am_pg z_L_entered).2 138 = some (.iload 4, 140, 4, 0, 0, 0, 0, []) := (congrFun pm_L_entered 138).trans rfl
theorem rl_L_entered_140 : (am_pg z_L_entered).2 140 = some (.isub, 141, 0, 0, 0, 0, 0, []) := (congrFun pm_L_entered 140).trans rfl
theorem rl_L_entered_141 : (am_pg z_L_entered).2 141 = some (.iconst (0), 142, 0, 0, 0, 0, 0, []) := (congrFun pm_L_entered 141).trans rfl
theorem rl_L_entered_142 : (am_pg z_L_entered).2 142 = some (.invokestatic 202, 145, 0, 2, 2, 3, 0, []) := (congrFun pm_L_entered 142).trans rfl
theorem rl_L_entered_145 : (am_pg z_L_entered).2 145 = some (.goto (4), 148, 149, 0, 0, 0, 0, []) := (congrFun pm_L_entered 145).trans rfl
theorem rl_L_entered_148 : (am_pg z_L_entered).2 148 = some (.iconst (0), 149, 0, 0, 0, 0, 0, []) := (congrFun pm_L_entered 148).trans rfl
theorem rl_L_entered_149 : (am_pg z_L_entered).2 149 = some (.ireturn, 150, 0, 0, 0, 0, 0, []) := (congrFun pm_L_entered 149).trans rfl
theorem rl_L_entered_150 : (am_pg z_L_entered).2 150 = some (.iload 6, 152, 6, 0, 0, 0, 0, []) := (congrFun pm_L_entered 150).trans rfl
theorem rl_L_entered_152 : (am_pg z_L_entered).2 152 = some (.ireturn, 153, 0, 0, 0, 0, 0, []) := (congrFun pm_L_entered 152).trans rfl
theorem rl_L_treaty_0 : (am_pg z_L_treaty).2 0 = some (.iload_n 1, 1, 1, 0, 0, 0, 0, []) := (congrFun pm_L_treaty 0).trans rfl
theorem rl_L_treaty_1 : (am_pg z_L_treaty).2 1 = some (.iload_n 2, 2, 2, 0, 0, 0, 0, []) := (congrFun pm_L_treaty 1).trans rfl
theorem rl_L_treaty_2 : (am_pg z_L_treaty).2 2 = some (.invokestatic 205, 5, 71, 2, 0, 75, 0, []) := (congrFun pm_L_treaty 2).trans rfl
theorem rl_L_treaty_5 : (am_pg z_L_treaty).2 5 = some (.ifCond .eq (11), 8, 16, 0, 0, 0, 0, []) := (congrFun pm_L_treaty 5).trans rfl
theorem rl_L_treaty_8 : (am_pg z_L_treaty).2 8 = some (.aload_n 0, 9, 0, 0, 0, 0, 0, []) := (congrFun pm_L_treaty 8).trans rfl
theorem rl_L_treaty_9 : (am_pg z_L_treaty).2 9 = some (.iload_n 3, 10, 3, 0, 0, 0, 0, []) := (congrFun pm_L_treaty 9).trans rfl
theorem rl_L_treaty_10 : (am_pg z_L_treaty).2 10 = some (.invokevirtual 178, 13, 64, 1, 8, 62, 0, []) := (congrFun pm_L_treaty 10).trans rfl
theorem rl_L_treaty_13 : (am_pg z_L_treaty).2 13 = some (.ifCond .ne (5), 16, 18, 0, 0, 0, 0, []) := (congrFun pm_L_treaty 13).trans rfl
theorem rl_L_treaty_16 : (am_pg z_L_treaty).2 16 = some (.iconst (0), 17, 0, 0, 0, 0, 0, []) := (congrFun pm_L_treaty 16).trans rfl
theorem rl_L_treaty_17 : (am_pg z_L_treaty).2 17 = some (.ireturn, 18, 0, 0, 1, 0, 0, []) := (congrFun pm_L_treaty 17).trans rfl
theorem rl_L_treaty_18 : (am_pg z_L_treaty).2 18 = some (.aload_n 0, 19, 0, 0, 0, 0, 0, []) := (congrFun pm_L_treaty 18).trans rfl
theorem rl_L_treaty_19 : (am_pg z_L_treaty).2 19 = some (.getfield 27, 22, 8, 3, 0, 70, 0, []) := (congrFun pm_L_treaty 19).trans rfl
theorem rl_L_treaty_22 : (am_pg z_L_treaty).2 22 = some (.iload_n 3, 23, 3, 0, 0, 0, 0, []) := (congrFun pm_L_treaty 22).trans rfl
theorem rl_L_treaty_23 : (am_pg z_L_treaty).2 23 = some (.invokevirtual 181, 26, 284, 1, 7, 63, 0, []) := (congrFun pm_L_treaty 23).trans rfl
theorem rl_L_treaty_26 : (am_pg z_L_treaty).2 26 = some (.istore 4, 28, 4, 0, 0, 0, 0, []) := (congrFun pm_L_treaty 26).trans rfl
theorem rl_L_treaty_28 : (am_pg z_L_treaty).2 28 = some (.iload 4, 30, 4, 0, 0, 0, 0, []) := (congrFun pm_L_treaty 28).trans rfl
theorem rl_L_treaty_30 : (am_pg z_L_treaty).2 30 = some (.iconst (-1), 31, 0, 0, 0, 0, -1, []) := (congrFun pm_L_treaty 30).trans rfl
theorem rl_L_treaty_31 : (am_pg z_L_treaty).2 31 = some (.if_icmp .ne (5), 34, 36, 0, 0, 0, 0, []) := (congrFun pm_L_treaty 31).trans rfl
theorem rl_L_treaty_34 : (am_pg z_L_treaty).2 34 = some (.iconst (0), 35, 0, 0, 0, 0, 0, []) := (congrFun pm_L_treaty 34).trans rfl
theorem rl_L_treaty_35 : (am_pg z_L_treaty).2 35 = some (.ireturn, 36, 0, 0, 1, 0, 0, []) := (congrFun pm_L_treaty 35).trans rfl
theorem rl_L_treaty_36 : (am_pg z_L_treaty).2 36 = some (.aload_n 0, 37, 0, 0, 0, 0, 0, []) := (congrFun pm_L_treaty 36).trans rfl
theorem rl_L_treaty_37 : (am_pg z_L_treaty).2 37 = some (.getfield 10, 40, 8, 0, 0, 67, 0, []) := (congrFun pm_L_treaty 37).trans rfl
theorem rl_L_treaty_40 : (am_pg z_L_treaty).2 40 = some (.getfield 62, 43, 6, 4, 0, 35, 0, []) := (congrFun pm_L_treaty 40).trans rfl
theorem rl_L_treaty_43 : (am_pg z_L_treaty).2 43 = some (.iload_n 1, 44, 1, 0, 0, 0, 0, []) := (congrFun pm_L_treaty 43).trans rfl
theorem rl_L_treaty_44 : (am_pg z_L_treaty).2 44 = some (.iload_n 2, 45, 2, 0, 0, 0, 0, []) := (congrFun pm_L_treaty 44).trans rfl
theorem rl_L_treaty_45 : (am_pg z_L_treaty).2 45 = some (.iload 4, 47, 4, 0, 0, 0, 0, []) := (congrFun pm_L_treaty 45).trans rfl
theorem rl_L_treaty_47 : (am_pg z_L_treaty).2 47 = some (.invokevirtual 208, 50, 271, 3, 4, 76, 0, []) := (congrFun pm_L_treaty 47).trans rfl
theorem rl_L_treaty_50 : (am_pg z_L_treaty).2 50 = some (.iconst (1), 51, 0, 0, 0, 0, 1, []) := (congrFun pm_L_treaty 50).trans rfl
theorem rl_L_treaty_51 : (am_pg z_L_treaty).2 51 = some (.ireturn, 52, 0, 0, 1, 0, 0, []) := (congrFun pm_L_treaty 51).trans rfl
theorem rl_L_without_0 : (am_pg z_L_without).2 0 = some (.iload_n 1, 1, 1, 0, 0, 0, 0, []) := (congrFun pm_L_without 0).trans rfl
theorem rl_L_without_1 : (am_pg z_L_without).2 1 = some (.iload_n 2, 2, 2, 0, 0, 0, 0, []) := (congrFun pm_L_without 1).trans rfl
theorem rl_L_without_2 : (am_pg z_L_without).2 2 = some (.invokestatic 205, 5, 71, 2, 0, 75, 0, []) := (congrFun pm_L_without 2).trans rfl
theorem rl_L_without_5 : (am_pg z_L_without).2 5 = some (.ifCond .eq (19), 8, 24, 0, 0, 0, 0, []) := (congrFun pm_L_without 5).trans rfl
theorem rl_L_without_8 : (am_pg z_L_without).2 8 = some (.aload_n 0, 9, 0, 0, 0, 0, 0, []) := (congrFun pm_L_without 8).trans rfl
theorem rl_L_without_9 : (am_pg z_L_without).2 9 = some (.getfield 10, 12, 8, 0, 0, 67, 0, []) := (congrFun pm_L_without 9).trans rfl
theorem rl_L_without_12 : (am_pg z_L_without).2 12 = some (.getfield 62, 15, 6, 4, 0, 35, 0, []) := (congrFun pm_L_without 12).trans rfl
theorem rl_L_without_15 : (am_pg z_L_without).2 15 = some (.iload_n 1, 16, 1, 0, 0, 0, 0, []) := (congrFun pm_L_without 15).trans rfl
theorem rl_L_without_16 : (am_pg z_L_without).2 16 = some (.iload_n 2, 17, 2, 0, 0, 0, 0, []) := (congrFun pm_L_without 16).trans rfl
theorem rl_L_without_17 : (am_pg z_L_without).2 17 = some (.invokevirtual 212, 20, 270, 2, 4, 78, 0, []) := (congrFun pm_L_without 17).trans rfl
theorem rl_L_without_20 : (am_pg z_L_without).2 20 = some (.iconst (-1), 21, 0, 0, 0, 0, -1, []) := (congrFun pm_L_without 20).trans rfl
theorem rl_L_without_21 : (am_pg z_L_without).2 21 = some (.if_icmp .ne (5), 24, 26, 0, 0, 0, 0, []) := (congrFun pm_L_without 21).trans rfl
theorem rl_L_without_24 : (am_pg z_L_without).2 24 = some (.iconst (0), 25, 0, 0, 0, 0, 0, []) := (congrFun pm_L_without 24).trans rfl
theorem rl_L_without_25 : (am_pg z_L_without).2 25 = some (.ireturn, 26, 0, 0, 1, 0, 0, []) := (congrFun pm_L_without 25).trans rfl
theorem rl_L_without_26 : (am_pg z_L_without).2 26 = some (.aload_n 0, 27, 0, 0, 0, 0, 0, []) := (congrFun pm_L_without 26).trans rfl
theorem rl_L_without_27 : (am_pg z_L_without).2 27 = some (.getfield 10, 30, 8, 0, 0, 67, 0, []) := (congrFun pm_L_without 27).trans rfl
theorem rl_L_without_30 : (am_pg z_L_without).2 30 = some (.getfield 62, 33, 6, 4, 0, 35, 0, []) := (congrFun pm_L_without 30).trans rfl
theorem rl_L_without_33 : (am_pg z_L_without).2 33 = some (.iload_n 1, 34, 1, 0, 0, 0, 0, []) := (congrFun pm_L_without 33).trans rfl
theorem rl_L_without_34 : (am_pg z_L_without).2 34 = some (.iload_n 2, 35, 2, 0, 0, 0, 0, []) := (congrFun pm_L_without 34).trans rfl
theorem rl_L_without_35 : (am_pg z_L_without).2 35 = some (.iconst (-1), 36, 0, 0, 0, 0, -1, []) := (congrFun pm_L_without 35).trans rfl
theorem rl_L_without_36 : (am_pg z_L_without).2 36 = some (.invokevirtual 208, 39, 271, 3, 4, 76, 0, []) := (congrFun pm_L_without 36).trans rfl
theorem rl_L_without_39 : (am_pg z_L_without).2 39 = some (.iconst (1), 40, 0, 0, 0, 0, 1, []) := (congrFun pm_L_without 39).trans rfl
theorem rl_L_without_40 : (am_pg z_L_without).2 40 = some (.ireturn, 41, 0, 0, 1, 0, 0, []) := (congrFun pm_L_without 40).trans rfl
theorem rl_L_tax_0 : (am_pg z_L_tax).2 0 = some (.iload_n 1, 1, 1, 0, 0, 0, 0, []) := (congrFun pm_L_tax 0).trans rfl
theorem rl_L_tax_1 : (am_pg z_L_tax).2 1 = some (.invokestatic 113, 4, 69, 1, 0, 37, 0, []) := (congrFun pm_L_tax 1).trans rfl
theorem rl_L_tax_4 : (am_pg z_L_tax).2 4 = some (.ifCond .eq (13), 7, 17, 0, 0, 0, 0, []) := (congrFun pm_L_tax 4).trans rfl
theorem rl_L_tax_7 : (am_pg z_L_tax).2 7 = some (.iload_n 2, 8, 2, 0, 0, 0, 0, []) := (congrFun pm_L_tax 7).trans rfl
theorem rl_L_tax_8 : (am_pg z_L_tax).2 8 = some (.iconst (0), 9, 0, 0, 0, 0, 0, []) := (congrFun pm_L_tax 8).trans rfl
theorem rl_L_tax_9 : (am_pg z_L_tax).2 9 = some (.bipush (60), 11, 0, 0, 0, 0, 60, []) := (congrFun pm_L_tax 9).trans rfl
theorem rl_L_tax_11 : (am_pg z_L_tax).2 11 = some (.invokestatic 133, 14, 65, 3, 0, 16, 0, []) := (congrFun pm_L_tax 11).trans rfl
theorem rl_L_tax_14 : (am_pg z_L_tax).2 14 = some (.ifCond .ne (5), 17, 19, 0, 0, 0, 0, []) := (congrFun pm_L_tax 14).trans rfl
theorem rl_L_tax_17 : (am_pg z_L_tax).2 17 = some (.iconst (-1), 18, 0, 0, 0, 0, -1, []) := (congrFun pm_L_tax 17).trans rfl
theorem rl_L_tax_18 : (am_pg z_L_tax).2 18 = some (.ireturn, 19, 0, 0, 0, 0, 0, []) := (congrFun pm_L_tax 18).trans rfl
theorem rl_L_tax_19 : (am_pg z_L_tax).2 19 = some (.aload_n 0, 20, 0, 0, 0, 0, 0, []) := (congrFun pm_L_tax 19).trans rfl
theorem rl_L_tax_20 : (am_pg z_L_tax).2 20 = some (.getfield 10, 23, 8, 0, 0, 67, 0, []) := (congrFun pm_L_tax 20).trans rfl
theorem rl_L_tax_23 : (am_pg z_L_tax).2 23 = some (.getfield 62, 26, 6, 4, 0, 35, 0, []) := (congrFun pm_L_tax 23).trans rfl
theorem rl_L_tax_26 : (am_pg z_L_tax).2 26 = some (.getfield 215, 29, 4, 3, 0, 13, 0, []) := (congrFun pm_L_tax 26).trans rfl
theorem rl_L_tax_29 : (am_pg z_L_tax).2 29 = some (.iload_n 1, 30, 1, 0, 0, 0, 0, []) := (congrFun pm_L_tax 29).trans rfl
theorem rl_L_tax_30 : (am_pg z_L_tax).2 30 = some (.iaload, 31, 0, 0, 0, 0, 0, []) := (congrFun pm_L_tax 30).trans rfl
theorem rl_L_tax_31 : (am_pg z_L_tax).2 31 = some (.istore_n 3, 32, 3, 0, 0, 0, 0, []) := (congrFun pm_L_tax 31).trans rfl
theorem rl_L_tax_32 : (am_pg z_L_tax).2 32 = some (.aload_n 0, 33, 0, 0, 0, 0, 0, []) := (congrFun pm_L_tax 32).trans rfl
theorem rl_L_tax_33 : (am_pg z_L_tax).2 33 = some (.getfield 10, 36, 8, 0, 0, 67, 0, []) := (congrFun pm_L_tax 33).trans rfl
theorem rl_L_tax_36 : (am_pg z_L_tax).2 36 = some (.getfield 62, 39, 6, 4, 0, 35, 0, []) := (congrFun pm_L_tax 36).trans rfl
theorem rl_L_tax_39 : (am_pg z_L_tax).2 39 = some (.getfield 215, 42, 4, 3, 0, 13, 0, []) := (congrFun pm_L_tax 39).trans rfl
theorem rl_L_tax_42 : (am_pg z_L_tax).2 42 = some (.iload_n 1, 43, 1, 0, 0, 0, 0, []) := (congrFun pm_L_tax 42).trans rfl
theorem rl_L_tax_43 : (am_pg z_L_tax).2 43 = some (.iload_n 2, 44, 2, 0, 0, 0, 0, []) := (congrFun pm_L_tax 43).trans rfl
theorem rl_L_tax_44 : (am_pg z_L_tax).2 44 = some (.iastore, 45, 0, 0, 0, 0, 0, []) := (congrFun pm_L_tax 44).trans rfl
theorem rl_L_tax_45 : (am_pg z_L_tax).2 45 = some (.iload_n 3, 46, 3, 0, 0, 0, 0, []) := (congrFun pm_L_tax 45).trans rfl
theorem rl_L_tax_46 : (am_pg z_L_tax).2 46 = some (.ireturn, 47, 0, 0, 0, 0, 0, []) := (congrFun pm_L_tax 46).trans rfl
theorem rl_L_told_0 : (am_pg z_L_told).2 0 = some (.iload_n 1, 1, 1, 0, 0, 0, 0, []) := (congrFun pm_L_told 0).trans rfl
theorem rl_L_told_1 : (am_pg z_L_told).2 1 = some (.invokestatic 113, 4, 69, 1, 0, 37, 0, []) := (congrFun pm_L_told 1).trans rfl
theorem rl_L_told_4 : (am_pg z_L_told).2 4 = some (.ifCond .eq (13), 7, 17, 0, 0, 0, 0, []) := (congrFun pm_L_told 4).trans rfl
theorem rl_L_told_7 : (am_pg z_L_told).2 7 = some (.iload_n 2, 8, 2, 0, 0, 0, 0, []) := (congrFun pm_L_told 7).trans rfl
theorem rl_L_told_8 : (am_pg z_L_told).2 8 = some (.iconst (0), 9, 0, 0, 0, 0, 0, []) := (congrFun pm_L_told 8).trans rfl
theorem rl_L_told_9 : (am_pg z_L_told).2 9 = some (.bipush (11), 11, 0, 0, 0, 0, 11, []) := (congrFun pm_L_told 9).trans rfl
theorem rl_L_told_11 : (am_pg z_L_told).2 11 = some (.invokestatic 133, 14, 65, 3, 0, 16, 0, []) := (congrFun pm_L_told 11).trans rfl
theorem rl_L_told_14 : (am_pg z_L_told).2 14 = some (.ifCond .ne (5), 17, 19, 0, 0, 0, 0, []) := (congrFun pm_L_told 14).trans rfl
theorem rl_L_told_17 : (am_pg z_L_told).2 17 = some (.iconst (-1), 18, 0, 0, 0, 0, -1, []) := (congrFun pm_L_told 17).trans rfl
theorem rl_L_told_18 : (am_pg z_L_told).2 18 = some (.ireturn, 19, 0, 0, 0, 0, 0, []) := (congrFun pm_L_told 18).trans rfl
theorem rl_L_told_19 : (am_pg z_L_told).2 19 = some (.aload_n 0, 20, 0, 0, 0, 0, 0, []) := (congrFun pm_L_told 19).trans rfl
theorem rl_L_told_20 : (am_pg z_L_told).2 20 = some (.getfield 10, 23, 8, 0, 0, 67, 0, []) := (congrFun pm_L_told 20).trans rfl
theorem rl_L_told_23 : (am_pg z_L_told).2 23 = some (.getfield 62, 26, 6, 4, 0, 35, 0, []) := (congrFun pm_L_told 23).trans rfl
theorem rl_L_told_26 : (am_pg z_L_told).2 26 = some (.astore_n 3, 27, 3, 0, 0, 0, 0, []) := (congrFun pm_L_told 26).trans rfl
theorem rl_L_told_27 : (am_pg z_L_told).2 27 = some (.iload_n 2, 28, 2, 0, 0, 0, 0, []) := (congrFun pm_L_told 27).trans rfl
theorem rl_L_told_28 : (am_pg z_L_told).2 28 = some (.tableswitch (102) (0) (7) #[48, 55, 62, 62, 62, 71, 78, 92], 76, 130, 0, 0, 0, 0, [(0, 76), (1, 83), (2, 90), (3, 90), (4, 90), (5, 99), (6, 106), (7, 120)]) := (congrFun pm_L_told 28).trans rfl
theorem rl_L_told_76 : (am_pg z_L_told).2 76 = some (.aload_n 3, 77, 3, 0, 0, 0, 0, []) := (congrFun pm_L_told 76).trans rfl
theorem rl_L_told_77 : (am_pg z_L_told).2 77 = some (.getfield 163, 80, 4, 0, 0, 6, 0, []) := (congrFun pm_L_told 77).trans rfl
theorem rl_L_told_80 : (am_pg z_L_told).2 80 = some (.iload_n 1, 81, 1, 0, 0, 0, 0, []) := (congrFun pm_L_told 80).trans rfl
theorem rl_L_told_81 : (am_pg z_L_told).2 81 = some (.iaload, 82, 0, 0, 0, 0, 0, []) := (congrFun pm_L_told 81).trans rfl
theorem rl_L_told_82 : (am_pg z_L_told).2 82 = some (.ireturn, 83, 0, 0, 0, 0, 0, []) := (congrFun pm_L_told 82).trans rfl
theorem rl_L_told_83 : (am_pg z_L_told).2 83 = some (.aload_n 3, 84, 3, 0, 0, 0, 0, []) := (congrFun pm_L_told 83).trans rfl
theorem rl_L_told_84 : (am_pg z_L_told).2 84 = some (.getfield 166, 87, 4, 1, 0, 9, 0, []) := (congrFun pm_L_told 84).trans rfl
theorem rl_L_told_87 : (am_pg z_L_told).2 87 = some (.iload_n 1, 88, 1, 0, 0, 0, 0, []) := (congrFun pm_L_told 87).trans rfl
theorem rl_L_told_88 : (am_pg z_L_told).2 88 = some (.iaload, 89, 0, 0, 0, 0, 0, []) := (congrFun pm_L_told 88).trans rfl
theorem rl_L_told_89 : (am_pg z_L_told).2 89 = some (.ireturn, 90, 0, 0, 0, 0, 0, []) := (congrFun pm_L_told 89).trans rfl
theorem rl_L_told_90 : (am_pg z_L_told).2 90 = some (.aload_n 3, 91, 3, 0, 0, 0, 0, []) := (congrFun pm_L_told 90).trans rfl
theorem rl_L_told_91 : (am_pg z_L_told).2 91 = some (.iload_n 1, 92, 1, 0, 0, 0, 0, []) := (congrFun pm_L_told 91).trans rfl
theorem rl_L_told_92 : (am_pg z_L_told).2 92 = some (.iload_n 2, 93, 2, 0, 0, 0, 0, []) := (congrFun pm_L_told 92).trans rfl
theorem rl_L_told_93 : (am_pg z_L_told).2 93 = some (.iconst (2), 94, 0, 0, 0, 0, 2, []) := (congrFun pm_L_told 93).trans rfl
theorem rl_L_told_94 : (am_pg z_L_told).2 94 = some (.isub, 95, 0, 0, 0, 0, 0, []) := (congrFun pm_L_told 94).trans rfl
theorem rl_L_told_95 : (am_pg z_L_told).2 95 = some (.invokevirtual 172, 98, 268, 2, 4, 60, 0, []) := (congrFun pm_L_told 95).trans rfl
theorem rl_L_told_98 : (am_pg z_L_told).2 98 = some (.ireturn, 99, 0, 0, 0, 0, 0, []) := (congrFun pm_L_told 98).trans rfl
theorem rl_L_told_99 : (am_pg z_L_told).2 99 = some (.aload_n 3, 100, 3, 0, 0, 0, 0, []) := (congrFun pm_L_told 99).trans rfl
theorem rl_L_told_100 : (am_pg z_L_told).2 100 = some (.getfield 215, 103, 4, 3, 0, 13, 0, []) := (congrFun pm_L_told 100).trans rfl
theorem rl_L_told_103 : (am_pg z_L_told).2 103 = some (.iload_n 1, 104, 1, 0, 0, 0, 0, []) := (congrFun pm_L_told 103).trans rfl
theorem rl_L_told_104 : (am_pg z_L_told).2 104 = some (.iaload, 105, 0, 0, 0, 0, 0, []) := (congrFun pm_L_told 104).trans rfl
theorem rl_L_told_105 : (am_pg z_L_told).2 105 = some (.ireturn, 106, 0, 0, 0, 0, 0, []) := (congrFun pm_L_told 105).trans rfl
theorem rl_L_told_106 : (am_pg z_L_told).2 106 = some (.aload_n 3, 107, 3, 0, 0, 0, 0, []) := (congrFun pm_L_told 106).trans rfl
theorem rl_L_told_107 : (am_pg z_L_told).2 107 = some (.iload_n 1, 108, 1, 0, 0, 0, 0, []) := (congrFun pm_L_told 107).trans rfl
theorem rl_L_told_108 : (am_pg z_L_told).2 108 = some (.invokevirtual 125, 111, 269, 1, 4, 42, 0, []) := (congrFun pm_L_told 108).trans rfl
theorem rl_L_told_111 : (am_pg z_L_told).2 111 = some (.ifCond .eq (7), 114, 118, 0, 0, 0, 0, []) := (congrFun pm_L_told 111).trans rfl
theorem rl_L_told_114 : (am_pg z_L_told).2 114 = some (.iconst (1), 115, 0, 0, 0, 0, 1, []) := (congrFun pm_L_told 114).trans rfl
theorem rl_L_told_115 : (am_pg z_L_told).2 115 = some (.goto (4), 118, 119, 0, 0, 0, 0, []) := (congrFun pm_L_told 115).trans rfl
theorem rl_L_told_118 : (am_pg z_L_told).2 118 = some (.iconst (0), 119, 0, 0, 0, 0, 0, []) := (congrFun pm_L_told 118).trans rfl
theorem rl_L_told_119 : (am_pg z_L_told).2 119 = some (.ireturn, 120, 0, 0, 0, 0, 0, []) := (congrFun pm_L_told 119).trans rfl
theorem rl_L_told_120 : (am_pg z_L_told).2 120 = some (.aload_n 3, 121, 3, 0, 0, 0, 0, []) := (congrFun pm_L_told 120).trans rfl
theorem rl_L_told_121 : (am_pg z_L_told).2 121 = some (.getfield 184, 124, 4, 5, 0, 18, 0, []) := (congrFun pm_L_told 121).trans rfl
theorem rl_L_told_124 : (am_pg z_L_told).2 124 = some (.iload_n 1, 125, 1, 0, 0, 0, 0, []) := (congrFun pm_L_told 124).trans rfl
theorem rl_L_told_125 : (am_pg z_L_told).2 125 = some (.iaload, 126, 0, 0, 0, 0, 0, []) := (congrFun pm_L_told 125).trans rfl
theorem rl_L_told_126 : (am_pg z_L_told).2 126 = some (.invokestatic 218, 129, 80, 1, 0, 67, 0, []) := (congrFun pm_L_told 126).trans rfl
theorem rl_L_told_129 : (am_pg z_L_told).2 129 = some (.ireturn, 130, 0, 0, 0, 0, 0, []) := (congrFun pm_L_told 129).trans rfl
theorem rl_L_told_130 : (am_pg z_L_told).2 130 = some (.iload_n 2, 131, 2, 0, 0, 0, 0, []) := (congrFun pm_L_told 130).trans rfl
theorem rl_L_told_131 : (am_pg z_L_told).2 131 = some (.bipush (8), 133, 0, 0, 0, 0, 8, []) := (congrFun pm_L_told 131).trans rfl
theorem rl_L_told_133 : (am_pg z_L_told).2 133 = some (.isub, 134, 0, 0, 0, 0, 0, []) := (congrFun pm_L_told 133).trans rfl
theorem rl_L_told_134 : (am_pg z_L_told).2 134 = some (.istore 4, 136, 4, 0, 0, 0, 0, []) := (congrFun pm_L_told 134).trans rfl
theorem rl_L_told_136 : (am_pg z_L_told).2 136 = some (.iload 4, 138, 4, 0, 0, 0, 0, []) := (congrFun pm_L_told 136).trans rfl
theorem rl_L_told_138 : (am_pg z_L_told).2 138 = some (.aload_n 3, 139, 3, 0, 0, 0, 0, []) := (congrFun pm_L_told 138).trans rfl
theorem rl_L_told_139 : (am_pg z_L_told).2 139 = some (.getfield 184, 142, 4, 5, 0, 18, 0, []) := (congrFun pm_L_told 139).trans rfl
theorem rl_L_told_142 : (am_pg z_L_told).2 142 = some (.iload_n 1, 143, 1, 0, 0, 0, 0, []) := (congrFun pm_L_told 142).trans rfl
theorem rl_L_told_143 : (am_pg z_L_told).2 143 = some (.iaload, 144, 0, 0, 0, 0, 0, []) := (congrFun pm_L_told 143).trans rfl
theorem rl_L_told_144 : (am_pg z_L_told).2 144 = some (.invokestatic 218, 147, 80, 1, 0, 67, 0, []) := (congrFun pm_L_told 144).trans rfl
theorem rl_L_told_147 : (am_pg z_L_told).2 147 = some (.if_icmp .ge (17), 150, 164, 0, 0, 0, 0, []) := (congrFun pm_L_told 147).trans rfl
theorem rl_L_told_150 : (am_pg z_L_told).2 150 = some (.aload_n 3, 151, 3, 0, 0, 0, 0, []) := (congrFun pm_L_told 150).trans rfl
theorem rl_L_told_151 : (am_pg z_L_told).2 151 = some (.getfield 184, 154, 4, 5, 0, 18, 0, []) := (congrFun pm_L_told 151).trans rfl
theorem rl_L_told_154 : (am_pg z_L_told).2 154 = some (.iload_n 1, 155, 1, 0, 0, 0, 0, []) := (congrFun pm_L_told 154).trans rfl
theorem rl_L_told_155 : (am_pg z_L_told).2 155 = some (.iaload, 156, 0, 0, 0, 0, 0, []) := (congrFun pm_L_told 155).trans rfl
theorem rl_L_told_156 : (am_pg z_L_told).2 156 = some (.iload 4, 158, 4, 0, 0, 0, 0, []) := (congrFun pm_L_told 156).trans rfl
theorem rl_L_told_158 : (am_pg z_L_told).2 158 = some (.invokestatic 221, 161, 81, 2, 0, 81, 0, []) := (congrFun pm_L_told 158).trans rfl
theorem rl_L_told_161 : (am_pg z_L_told).2 161 = some (.goto (5), 164, 166, 0, 0, 0, 0, []) := (congrFun pm_L_told 161).trans rfl
theorem rl_L_told_164 : (am_pg z_L_told).2 164 = some (.bipush (-2), 166, 0, 0, 0, 0, -2, []) := (congrFun pm_L_told 164).trans rfl
theorem rl_L_told_166 : (am_pg z_L_told).2 166 = some (.ireturn, 167, 0, 0, 0, 0, 0, []) := (congrFun pm_L_told 166).trans rfl
theorem rl_L_days_0 : (am_pg z_L_days).2 0 = some (.iload_n 1, 1, 1, 0, 0, 0, 0, []) := (congrFun pm_L_days 0).trans rfl
theorem rl_L_days_1 : (am_pg z_L_days).2 1 = some (.invokestatic 113, 4, 69, 1, 0, 37, 0, []) := (congrFun pm_L_days 1).trans rfl
theorem rl_L_days_4 : (am_pg z_L_days).2 4 = some (.ifCond .eq (19), 7, 23, 0, 0, 0, 0, []) := (congrFun pm_L_days 4).trans rfl
theorem rl_L_days_7 : (am_pg z_L_days).2 7 = some (.iload_n 2, 8, 2, 0, 0, 0, 0, []) := (congrFun pm_L_days 7).trans rfl
theorem rl_L_days_8 : (am_pg z_L_days).2 8 = some (.invokestatic 190, 11, 68, 1, 0, 70, 0, []) := (congrFun pm_L_days 8).trans rfl
theorem rl_L_days_11 : (am_pg z_L_days).2 11 = some (.ifCond .eq (12), 14, 23, 0, 0, 0, 0, []) := (congrFun pm_L_days 11).trans rfl
theorem rl_L_days_14 : (am_pg z_L_days).2 14 = some (.iload_n 3, 15, 3, 0, 0, 0, 0, []) := (congrFun pm_L_days 14).trans rfl
theorem rl_L_days_15 : (am_pg z_L_days).2 15 = some (.iconst (0), 16, 0, 0, 0, 0, 0, []) := (congrFun pm_L_days 15).trans rfl
theorem rl_L_days_16 : (am_pg z_L_days).2 16 = some (.iconst (4), 17, 0, 0, 0, 0, 4, []) := (congrFun pm_L_days 16).trans rfl
theorem rl_L_days_17 : (am_pg z_L_days).2 17 = some (.invokestatic 133, 20, 65, 3, 0, 16, 0, []) := (congrFun pm_L_days 17).trans rfl
theorem rl_L_days_20 : (am_pg z_L_days).2 20 = some (.ifCond .ne (5), 23, 25, 0, 0, 0, 0, []) := (congrFun pm_L_days 20).trans rfl
theorem rl_L_days_23 : (am_pg z_L_days).2 23 = some (.iconst (-1), 24, 0, 0, 0, 0, -1, []) := (congrFun pm_L_days 23).trans rfl
theorem rl_L_days_24 : (am_pg z_L_days).2 24 = some (.ireturn, 25, 0, 0, 0, 0, 0, []) := (congrFun pm_L_days 24).trans rfl
theorem rl_L_days_25 : (am_pg z_L_days).2 25 = some (.iload_n 3, 26, 3, 0, 0, 0, 0, []) := (congrFun pm_L_days 25).trans rfl
theorem rl_L_days_26 : (am_pg z_L_days).2 26 = some (.tableswitch (107) (0) (3) #[30, 50, 67, 87], 56, 133, 0, 0, 0, 0, [(0, 56), (1, 76), (2, 93), (3, 113)]) := (congrFun pm_L_days 26).trans rfl
theorem rl_L_days_56 : (am_pg z_L_days).2 56 = some (.aload_n 0, 57, 0, 0, 0, 0, 0, []) := (congrFun pm_L_days 56).trans rfl
theorem rl_L_days_57 : (am_pg z_L_days).2 57 = some (.getfield 10, 60, 8, 0, 0, 67, 0, []) := (congrFun pm_L_days 57).trans rfl
theorem rl_L_days_60 : (am_pg z_L_days).2 60 = some (.getfield 95, 63, 6, 0, 0, 24, 0, []) := (congrFun pm_L_days 60).trans rfl
theorem rl_L_days_63 : (am_pg z_L_days).2 63 = some (.iload_n 1, 64, 1, 0, 0, 0, 0, []) := (congrFun pm_L_days 63).trans rfl
theorem rl_L_days_64 : (am_pg z_L_days).2 64 = some (.iload_n 2, 65, 2, 0, 0, 0, 0, []) := (congrFun pm_L_days 64).trans rfl
theorem rl_L_days_65 : (am_pg z_L_days).2 65 = some (.invokestatic 193, 68, 75, 1, 0, 71, 0, []) := (congrFun pm_L_days 65).trans rfl
theorem rl_L_days_68 : (am_pg z_L_days).2 68 = some (.iload_n 2, 69, 2, 0, 0, 0, 0, []) := (congrFun pm_L_days 68).trans rfl
theorem rl_L_days_69 : (am_pg z_L_days).2 69 = some (.invokestatic 196, 72, 76, 1, 0, 72, 0, []) := (congrFun pm_L_days 69).trans rfl
theorem rl_L_days_72 : (am_pg z_L_days).2 72 = some (.invokevirtual 224, 75, 241, 3, 1, 83, 0, []) := (congrFun pm_L_days 72).trans rfl
theorem rl_L_days_75 : (am_pg z_L_days).2 75 = some (.ireturn, 76, 0, 0, 0, 0, 0, []) := (congrFun pm_L_days 75).trans rfl
theorem rl_L_days_76 : (am_pg z_L_days).2 76 = some (.aload_n 0, 77, 0, 0, 0, 0, 0, []) := (congrFun pm_L_days 76).trans rfl
theorem rl_L_days_77 : (am_pg z_L_days).2 77 = some (.getfield 10, 80, 8, 0, 0, 67, 0, []) := (congrFun pm_L_days 77).trans rfl
theorem rl_L_days_80 : (am_pg z_L_days).2 80 = some (.iload_n 1, 81, 1, 0, 0, 0, 0, []) := (congrFun pm_L_days 80).trans rfl
theorem rl_L_days_81 : (am_pg z_L_days).2 81 = some (.iload_n 2, 82, 2, 0, 0, 0, 0, []) := (congrFun pm_L_days 81).trans rfl
theorem rl_L_days_82 : (am_pg z_L_days).2 82 = some (.invokestatic 193, 85, 75, 1, 0, 71, 0, []) := (congrFun pm_L_days 82).trans rfl
theorem rl_L_days_85 : (am_pg z_L_days).2 85 = some (.iload_n 2, 86, 2, 0, 0, 0, 0, []) := (congrFun pm_L_days 85).trans rfl
theorem rl_L_days_86 : (am_pg z_L_days).2 86 = some (.invokestatic 196, 89, 76, 1, 0, 72, 0, []) := (congrFun pm_L_days 86).trans rfl
theorem rl_L_days_89 : (am_pg z_L_days).2 89 = some (.invokevirtual 227, 92, 281, 3, 6, 84, 0, []) := (congrFun pm_L_days 89).trans rfl
theorem rl_L_days_92 : (am_pg z_L_days).2 92 = some (.ireturn, 93, 0, 0, 0, 0, 0, []) := (congrFun pm_L_days 92).trans rfl
theorem rl_L_days_93 : (am_pg z_L_days).2 93 = some (.aload_n 0, 94, 0, 0, 0, 0, 0, []) := (congrFun pm_L_days 93).trans rfl
theorem rl_L_days_94 : (am_pg z_L_days).2 94 = some (.getfield 10, 97, 8, 0, 0, 67, 0, []) := (congrFun pm_L_days 94).trans rfl
theorem rl_L_days_97 : (am_pg z_L_days).2 97 = some (.getfield 122, 100, 6, 1, 0, 27, 0, []) := (congrFun pm_L_days 97).trans rfl
theorem rl_L_days_100 : (am_pg z_L_days).2 100 = some (.iload_n 1, 101, 1, 0, 0, 0, 0, []) := (congrFun pm_L_days 100).trans rfl
theorem rl_L_days_101 : (am_pg z_L_days).2 101 = some (.iload_n 2, 102, 2, 0, 0, 0, 0, []) := (congrFun pm_L_days 101).trans rfl
theorem rl_L_days_102 : (am_pg z_L_days).2 102 = some (.invokestatic 193, 105, 75, 1, 0, 71, 0, []) := (congrFun pm_L_days 102).trans rfl
theorem rl_L_days_105 : (am_pg z_L_days).2 105 = some (.iload_n 2, 106, 2, 0, 0, 0, 0, []) := (congrFun pm_L_days 105).trans rfl
theorem rl_L_days_106 : (am_pg z_L_days).2 106 = some (.invokestatic 196, 109, 76, 1, 0, 72, 0, []) := (congrFun pm_L_days 106).trans rfl
theorem rl_L_days_109 : (am_pg z_L_days).2 109 = some (.invokevirtual 224, 112, 241, 3, 1, 83, 0, []) := (congrFun pm_L_days 109).trans rfl
theorem rl_L_days_112 : (am_pg z_L_days).2 112 = some (.ireturn, 113, 0, 0, 0, 0, 0, []) := (congrFun pm_L_days 112).trans rfl
theorem rl_L_days_113 : (am_pg z_L_days).2 113 = some (.aload_n 0, 114, 0, 0, 0, 0, 0, []) := (congrFun pm_L_days 113).trans rfl
theorem rl_L_days_114 : (am_pg z_L_days).2 114 = some (.getfield 10, 117, 8, 0, 0, 67, 0, []) := (congrFun pm_L_days 114).trans rfl
theorem rl_L_days_117 : (am_pg z_L_days).2 117 = some (.getfield 95, 120, 6, 0, 0, 24, 0, []) := (congrFun pm_L_days 117).trans rfl
theorem rl_L_days_120 : (am_pg z_L_days).2 120 = some (.iload_n 1, 121, 1, 0, 0, 0, 0, []) := (congrFun pm_L_days 120).trans rfl
theorem rl_L_days_121 : (am_pg z_L_days).2 121 = some (.iload_n 2, 122, 2, 0, 0, 0, 0, []) := (congrFun pm_L_days 121).trans rfl
theorem rl_L_days_122 : (am_pg z_L_days).2 122 = some (.invokestatic 193, 125, 75, 1, 0, 71, 0, []) := (congrFun pm_L_days 122).trans rfl
theorem rl_L_days_125 : (am_pg z_L_days).2 125 = some (.iload_n 2, 126, 2, 0, 0, 0, 0, []) := (congrFun pm_L_days 125).trans rfl
theorem rl_L_days_126 : (am_pg z_L_days).2 126 = some (.invokestatic 196, 129, 76, 1, 0, 72, 0, []) := (congrFun pm_L_days 126).trans rfl
theorem rl_L_days_129 : (am_pg z_L_days).2 129 = some (.invokevirtual 230, 132, 242, 3, 1, 86, 0, []) := (congrFun pm_L_days 129).trans rfl
theorem rl_L_days_132 : (am_pg z_L_days).2 132 = some (.ireturn, 133, 0, 0, 0, 0, 0, []) := (congrFun pm_L_days 132).trans rfl
theorem rl_L_days_133 : (am_pg z_L_days).2 133 = some (.aload_n 0, 134, 0, 0, 0, 0, 0, []) := (congrFun pm_L_days 133).trans rfl
theorem rl_L_days_134 : (am_pg z_L_days).2 134 = some (.getfield 10, 137, 8, 0, 0, 67, 0, []) := (congrFun pm_L_days 134).trans rfl
theorem rl_L_days_137 : (am_pg z_L_days).2 137 = some (.getfield 95, 140, 6, 0, 0, 24, 0, []) := (congrFun pm_L_days 137).trans rfl
theorem rl_L_days_140 : (am_pg z_L_days).2 140 = some (.iload_n 1, 141, 1, 0, 0, 0, 0, []) := (congrFun pm_L_days 140).trans rfl
theorem rl_L_days_141 : (am_pg z_L_days).2 141 = some (.iload_n 2, 142, 2, 0, 0, 0, 0, []) := (congrFun pm_L_days 141).trans rfl
theorem rl_L_days_142 : (am_pg z_L_days).2 142 = some (.invokestatic 193, 145, 75, 1, 0, 71, 0, []) := (congrFun pm_L_days 142).trans rfl
theorem rl_L_days_145 : (am_pg z_L_days).2 145 = some (.iload_n 2, 146, 2, 0, 0, 0, 0, []) := (congrFun pm_L_days 145).trans rfl
theorem rl_L_days_146 : (am_pg z_L_days).2 146 = some (.invokestatic 196, 149, 76, 1, 0, 72, 0, []) := (congrFun pm_L_days 146).trans rfl
theorem rl_L_days_149 : (am_pg z_L_days).2 149 = some (.invokevirtual 233, 152, 243, 3, 1, 87, 0, []) := (congrFun pm_L_days 149).trans rfl
theorem rl_L_days_152 : (am_pg z_L_days).2 152 = some (.ireturn, 153, 0, 0, 0, 0, 0, []) := (congrFun pm_L_days 152).trans rfl
theorem rl_L_month_0 : (am_pg z_L_month).2 0 = some (.iload_n 1, 1, 1, 0, 0, 0, 0, []) := (congrFun pm_L_month 0).trans rfl
theorem rl_L_month_1 : (am_pg z_L_month).2 1 = some (.invokestatic 113, 4, 69, 1, 0, 37, 0, []) := (congrFun pm_L_month 1).trans rfl
theorem rl_L_month_4 : (am_pg z_L_month).2 4 = some (.ifCond .eq (13), 7, 17, 0, 0, 0, 0, []) := (congrFun pm_L_month 4).trans rfl
theorem rl_L_month_7 : (am_pg z_L_month).2 7 = some (.iload_n 2, 8, 2, 0, 0, 0, 0, []) := (congrFun pm_L_month 7).trans rfl
theorem rl_L_month_8 : (am_pg z_L_month).2 8 = some (.iconst (0), 9, 0, 0, 0, 0, 0, []) := (congrFun pm_L_month 8).trans rfl
theorem rl_L_month_9 : (am_pg z_L_month).2 9 = some (.bipush (35), 11, 0, 0, 0, 0, 35, []) := (congrFun pm_L_month 9).trans rfl
theorem rl_L_month_11 : (am_pg z_L_month).2 11 = some (.invokestatic 133, 14, 65, 3, 0, 16, 0, []) := (congrFun pm_L_month 11).trans rfl
theorem rl_L_month_14 : (am_pg z_L_month).2 14 = some (.ifCond .ne (5), 17, 19, 0, 0, 0, 0, []) := (congrFun pm_L_month 14).trans rfl
theorem rl_L_month_17 : (am_pg z_L_month).2 17 = some (.iconst (-1), 18, 0, 0, 0, 0, -1, []) := (congrFun pm_L_month 17).trans rfl
theorem rl_L_month_18 : (am_pg z_L_month).2 18 = some (.ireturn, 19, 0, 0, 0, 0, 0, []) := (congrFun pm_L_month 18).trans rfl
theorem rl_L_month_19 : (am_pg z_L_month).2 19 = some (.iload_n 2, 20, 2, 0, 0, 0, 0, []) := (congrFun pm_L_month 19).trans rfl
theorem rl_L_month_20 : (am_pg z_L_month).2 20 = some (.bipush (30), 22, 0, 0, 0, 0, 30, []) := (congrFun pm_L_month 20).trans rfl
theorem rl_L_month_22 : (am_pg z_L_month).2 22 = some (.imul, 23, 0, 0, 0, 0, 0, []) := (congrFun pm_L_month 22).trans rfl
theorem rl_L_month_23 : (am_pg z_L_month).2 23 = some (.istore_n 3, 24, 3, 0, 0, 0, 0, []) := (congrFun pm_L_month 23).trans rfl
theorem rl_L_month_24 : (am_pg z_L_month).2 24 = some (.aload_n 0, 25, 0, 0, 0, 0, 0, []) := (congrFun pm_L_month 24).trans rfl
theorem rl_L_month_25 : (am_pg z_L_month).2 25 = some (.getfield 10, 28, 8, 0, 0, 67, 0, []) := (congrFun pm_L_month 25).trans rfl
theorem rl_L_month_28 : (am_pg z_L_month).2 28 = some (.getfield 95, 31, 6, 0, 0, 24, 0, []) := (congrFun pm_L_month 28).trans rfl
theorem rl_L_month_31 : (am_pg z_L_month).2 31 = some (.iload_n 1, 32, 1, 0, 0, 0, 0, []) := (congrFun pm_L_month 31).trans rfl
theorem rl_L_month_32 : (am_pg z_L_month).2 32 = some (.iload_n 3, 33, 3, 0, 0, 0, 0, []) := (congrFun pm_L_month 32).trans rfl
theorem rl_L_month_33 : (am_pg z_L_month).2 33 = some (.iload_n 3, 34, 3, 0, 0, 0, 0, []) := (congrFun pm_L_month 33).trans rfl
theorem rl_L_month_34 : (am_pg z_L_month).2 34 = some (.bipush (30), 36, 0, 0, 0, 0, 30, []) := (congrFun pm_L_month 34).trans rfl
theorem rl_L_month_36 : (am_pg z_L_month).2 36 = some (.iadd, 37, 0, 0, 0, 0, 0, []) := (congrFun pm_L_month 36).trans rfl
theorem rl_L_month_37 : (am_pg z_L_month).2 37 = some (.iconst (1), 38, 0, 0, 0, 0, 1, []) := (congrFun pm_L_month 37).trans rfl
theorem rl_L_month_38 : (am_pg z_L_month).2 38 = some (.isub, 39, 0, 0, 0, 0, 0, []) := (congrFun pm_L_month 38).trans rfl
theorem rl_L_month_39 : (am_pg z_L_month).2 39 = some (.invokevirtual 224, 42, 241, 3, 1, 83, 0, []) := (congrFun pm_L_month 39).trans rfl
theorem rl_L_month_42 : (am_pg z_L_month).2 42 = some (.ireturn, 43, 0, 0, 0, 0, 0, []) := (congrFun pm_L_month 42).trans rfl
theorem rl_L_within_0 : (am_pg z_L_within).2 0 = some (.iload_n 1, 1, 1, 0, 0, 0, 0, []) := (congrFun pm_L_within 0).trans rfl
theorem rl_L_within_1 : (am_pg z_L_within).2 1 = some (.invokestatic 113, 4, 69, 1, 0, 37, 0, []) := (congrFun pm_L_within 1).trans rfl
theorem rl_L_within_4 : (am_pg z_L_within).2 4 = some (.ifCond .eq (21), 7, 25, 0, 0, 0, 0, []) := (congrFun pm_L_within 4).trans rfl
theorem rl_L_within_7 : (am_pg z_L_within).2 7 = some (.iload_n 2, 8, 2, 0, 0, 0, 0, []) := (congrFun pm_L_within 7).trans rfl
theorem rl_L_within_8 : (am_pg z_L_within).2 8 = some (.invokestatic 147, 11, 66, 1, 0, 34, 0, []) := (congrFun pm_L_within 8).trans rfl
theorem rl_L_within_11 : (am_pg z_L_within).2 11 = some (.ifCond .eq (14), 14, 25, 0, 0, 0, 0, []) := (congrFun pm_L_within 11).trans rfl
theorem rl_L_within_14 : (am_pg z_L_within).2 14 = some (.iload_n 3, 15, 3, 0, 0, 0, 0, []) := (congrFun pm_L_within 14).trans rfl
theorem rl_L_within_15 : (am_pg z_L_within).2 15 = some (.iconst (1), 16, 0, 0, 0, 0, 1, []) := (congrFun pm_L_within 15).trans rfl
theorem rl_L_within_16 : (am_pg z_L_within).2 16 = some (.sipush (1080), 19, 0, 0, 0, 0, 1080, []) := (congrFun pm_L_within 16).trans rfl
theorem rl_L_within_19 : (am_pg z_L_within).2 19 = some (.invokestatic 133, 22, 65, 3, 0, 16, 0, []) := (congrFun pm_L_within 19).trans rfl
theorem rl_L_within_22 : (am_pg z_L_within).2 22 = some (.ifCond .ne (5), 25, 27, 0, 0, 0, 0, []) := (congrFun pm_L_within 22).trans rfl
theorem rl_L_within_25 : (am_pg z_L_within).2 25 = some (.iconst (-1), 26, 0, 0, 0, 0, -1, []) := (congrFun pm_L_within 25).trans rfl
theorem rl_L_within_26 : (am_pg z_L_within).2 26 = some (.ireturn, 27, 0, 0, 0, 0, 0, []) := (congrFun pm_L_within 26).trans rfl
theorem rl_L_within_27 : (am_pg z_L_within).2 27 = some (.aload_n 0, 28, 0, 0, 0, 0, 0, []) := (congrFun pm_L_within 27).trans rfl
theorem rl_L_within_28 : (am_pg z_L_within).2 28 = some (.getfield 10, 31, 8, 0, 0, 67, 0, []) := (congrFun pm_L_within 28).trans rfl
theorem rl_L_within_31 : (am_pg z_L_within).2 31 = some (.getfield 95, 34, 6, 0, 0, 24, 0, []) := (congrFun pm_L_within 31).trans rfl
theorem rl_L_within_34 : (am_pg z_L_within).2 34 = some (.iload_n 1, 35, 1, 0, 0, 0, 0, []) := (congrFun pm_L_within 34).trans rfl
theorem rl_L_within_35 : (am_pg z_L_within).2 35 = some (.iload_n 2, 36, 2, 0, 0, 0, 0, []) := (congrFun pm_L_within 35).trans rfl
theorem rl_L_within_36 : (am_pg z_L_within).2 36 = some (.iload_n 3, 37, 3, 0, 0, 0, 0, []) := (congrFun pm_L_within 36).trans rfl
theorem rl_L_within_37 : (am_pg z_L_within).2 37 = some (.isub, 38, 0, 0, 0, 0, 0, []) := (congrFun pm_L_within 37).trans rfl
theorem rl_L_within_38 : (am_pg z_L_within).2 38 = some (.iconst (1), 39, 0, 0, 0, 0, 1, []) := (congrFun pm_L_within 38).trans rfl
theorem rl_L_within_39 : (am_pg z_L_within).2 39 = some (.iadd, 40, 0, 0, 0, 0, 0, []) := (congrFun pm_L_within 39).trans rfl
theorem rl_L_within_40 : (am_pg z_L_within).2 40 = some (.iconst (0), 41, 0, 0, 0, 0, 0, []) := (congrFun pm_L_within 40).trans rfl
theorem rl_L_within_41 : (am_pg z_L_within).2 41 = some (.invokestatic 202, 44, 0, 2, 2, 3, 0, []) := (congrFun pm_L_within 41).trans rfl
theorem rl_L_within_44 : (am_pg z_L_within).2 44 = some (.iload_n 2, 45, 2, 0, 0, 0, 0, []) := (congrFun pm_L_within 44).trans rfl
theorem rl_L_within_45 : (am_pg z_L_within).2 45 = some (.invokevirtual 224, 48, 241, 3, 1, 83, 0, []) := (congrFun pm_L_within 45).trans rfl
theorem rl_L_within_48 : (am_pg z_L_within).2 48 = some (.ireturn, 49, 0, 0, 0, 0, 0, []) := (congrFun pm_L_within 48).trans rfl
theorem rl_L_overstays_0 : (am_pg z_L_overstays).2 0 = some (.iload_n 1, 1, 1, 0, 0, 0, 0, []) := (congrFun pm_L_overstays 0).trans rfl
theorem rl_L_overstays_1 : (am_pg z_L_overstays).2 1 = some (.invokestatic 113, 4, 69, 1, 0, 37, 0, []) := (congrFun pm_L_overstays 1).trans rfl
theorem rl_L_overstays_4 : (am_pg z_L_overstays).2 4 = some (.ifCond .eq (21), 7, 25, 0, 0, 0, 0, []) := (congrFun pm_L_overstays 4).trans rfl
theorem rl_L_overstays_7 : (am_pg z_L_overstays).2 7 = some (.iload_n 2, 8, 2, 0, 0, 0, 0, []) := (congrFun pm_L_overstays 7).trans rfl
theorem rl_L_overstays_8 : (am_pg z_L_overstays).2 8 = some (.iload_n 3, 9, 3, 0, 0, 0, 0, []) := (congrFun pm_L_overstays 8).trans rfl
theorem rl_L_overstays_9 : (am_pg z_L_overstays).2 9 = some (.invokestatic 105, 12, 67, 2, 0, 33, 0, []) := (congrFun pm_L_overstays 9).trans rfl
theorem rl_L_overstays_12 : (am_pg z_L_overstays).2 12 = some (.ifCond .eq (13), 15, 25, 0, 0, 0, 0, []) := (congrFun pm_L_overstays 12).trans rfl
theorem rl_L_overstays_15 : (am_pg z_L_overstays).2 15 = some (.iload 4, 17, 4, 0, 0, 0, 0, []) := (congrFun pm_L_overstays 15).trans rfl
theorem rl_L_overstays_17 : (am_pg z_L_overstays).2 17 = some (.iconst (0), 18, 0, 0, 0, 0, 0, []) := (congrFun pm_L_overstays 17).trans rfl
theorem rl_L_overstays_18 : (am_pg z_L_overstays).2 18 = some (.iconst (2), 19, 0, 0, 0, 0, 2, []) := (congrFun pm_L_overstays 18).trans rfl
theorem rl_L_overstays_19 : (am_pg z_L_overstays).2 19 = some (.invokestatic 133, 22, 65, 3, 0, 16, 0, []) := (congrFun pm_L_overstays 19).trans rfl
theorem rl_L_overstays_22 : (am_pg z_L_overstays).2 22 = some (.ifCond .ne (5), 25, 27, 0, 0, 0, 0, []) := (congrFun pm_L_overstays 22).trans rfl
theorem rl_L_overstays_25 : (am_pg z_L_overstays).2 25 = some (.iconst (-1), 26, 0, 0, 0, 0, -1, []) := (congrFun pm_L_overstays 25).trans rfl
theorem rl_L_overstays_26 : (am_pg z_L_overstays).2 26 = some (.ireturn, 27, 0, 0, 0, 0, 0, []) := (congrFun pm_L_overstays 26).trans rfl
theorem rl_L_overstays_27 : (am_pg z_L_overstays).2 27 = some (.aload_n 0, 28, 0, 0, 0, 0, 0, []) := (congrFun pm_L_overstays 27).trans rfl
theorem rl_L_overstays_28 : (am_pg z_L_overstays).2 28 = some (.getfield 69, 31, 8, 7, 0, 74, 0, []) := (congrFun pm_L_overstays 28).trans rfl
theorem rl_L_overstays_31 : (am_pg z_L_overstays).2 31 = some (.aload_n 0, 32, 0, 0, 0, 0, 0, []) := (congrFun pm_L_overstays 31).trans rfl
theorem rl_L_overstays_32 : (am_pg z_L_overstays).2 32 = some (.getfield 10, 35, 8, 0, 0, 67, 0, []) := (congrFun pm_L_overstays 32).trans rfl
theorem rl_L_overstays_35 : (am_pg z_L_overstays).2 35 = some (.getfield 95, 38, 6, 0, 0, 24, 0, []) := (congrFun pm_L_overstays 35).trans rfl
theorem rl_L_overstays_38 : (am_pg z_L_overstays).2 38 = some (.iload_n 1, 39, 1, 0, 0, 0, 0, []) := (congrFun pm_L_overstays 38).trans rfl
theorem rl_L_overstays_39 : (am_pg z_L_overstays).2 39 = some (.invokevirtual 236, 42, 257, 2, 3, 91, 0, []) := (congrFun pm_L_overstays 39).trans rfl
theorem rl_L_overstays_42 : (am_pg z_L_overstays).2 42 = some (.iconst (0), 43, 0, 0, 0, 0, 0, []) := (congrFun pm_L_overstays 42).trans rfl
theorem rl_L_overstays_43 : (am_pg z_L_overstays).2 43 = some (.istore 5, 45, 5, 0, 0, 0, 0, []) := (congrFun pm_L_overstays 43).trans rfl
theorem rl_L_overstays_45 : (am_pg z_L_overstays).2 45 = some (.bipush (-2), 47, 0, 0, 0, 0, -2, []) := (congrFun pm_L_overstays 45).trans rfl
theorem rl_L_overstays_47 : (am_pg z_L_overstays).2 47 = some (.istore 6, 49, 6, 0, 0, 0, 0, []) := (congrFun pm_L_overstays 47).trans rfl
theorem rl_L_overstays_49 : (am_pg z_L_overstays).2 49 = some (.iconst (0), 50, 0, 0, 0, 0, 0, []) := (congrFun pm_L_overstays 49).trans rfl
theorem rl_L_overstays_50 : (am_pg z_L_overstays).2 50 = some (.istore 7, 52, 7, 0, 0, 0, 0, []) := (congrFun pm_L_overstays 50).trans rfl
theorem rl_L_overstays_52 : (am_pg z_L_overstays).2 52 = some (.iload_n 2, 53, 2, 0, 0, 0, 0, []) := (congrFun pm_L_overstays 52).trans rfl
theorem rl_L_overstays_53 : (am_pg z_L_overstays).2 53 = some (.istore 8, 55, 8, 0, 0, 0, 0, []) := (congrFun pm_L_overstays 53).trans rfl
theorem rl_L_overstays_55 : (am_pg z_L_overstays).2 55 = some (.iload 8, 57, 8, 0, 0, 0, 0, []) := (congrFun pm_L_overstays 55).trans rfl
theorem rl_L_overstays_57 : (am_pg z_L_overstays).2 57 = some (.iload_n 3, 58, 3, 0, 0, 0, 0, []) := (congrFun pm_L_overstays 57).trans rfl
theorem rl_L_overstays_58 : (am_pg z_L_overstays).2 58 = some (.if_icmp .gt (53), 61, 111, 0, 0, 0, 0, []) := (congrFun pm_L_overstays 58).trans rfl
theorem rl_L_overstays_61 : (am_pg z_L_overstays).2 61 = some (.aload_n 0, 62, 0, 0, 0, 0, 0, []) := (congrFun pm_L_overstays 61).trans rfl
theorem rl_L_overstays_62 : (am_pg z_L_overstays).2 62 = some (.getfield 69, 65, 8, 7, 0, 74, 0, []) := (congrFun pm_L_overstays 62).trans rfl
theorem rl_L_overstays_65 : (am_pg z_L_overstays).2 65 = some (.iload 8, 67, 8, 0, 0, 0, 0, []) := (congrFun pm_L_overstays 65).trans rfl
theorem rl_L_overstays_67 : (am_pg z_L_overstays).2 67 = some (.invokevirtual 239, 70, 260, 1, 3, 92, 0, []) := (congrFun pm_L_overstays 67).trans rfl
theorem rl_L_overstays_70 : (am_pg z_L_overstays).2 70 = some (.istore 9, 72, 9, 0, 0, 0, 0, []) := (congrFun pm_L_overstays 70).trans rfl
theorem rl_L_overstays_72 : (am_pg z_L_overstays).2 72 = some (.iload 9, 74, 9, 0, 0, 0, 0, []) := (congrFun pm_L_overstays 72).trans rfl
theorem rl_L_overstays_74 : (am_pg z_L_overstays).2 74 = some (.ifCond .le (31), 77, 105, 0, 0, 0, 0, []) := (congrFun pm_L_overstays 74).trans rfl
theorem rl_L_overstays_77 : (am_pg z_L_overstays).2 77 = some (.iinc 5 (1), 80, 5, 0, 0, 0, 1, []) := (congrFun pm_L_overstays 77).trans rfl
theorem rl_L_overstays_80 : (am_pg z_L_overstays).2 80 = some (.iload 6, 82, 6, 0, 0, 0, 0, []) := (congrFun pm_L_overstays 80).trans rfl
theorem rl_L_overstays_82 : (am_pg z_L_overstays).2 82 = some (.bipush (-2), 84, 0, 0, 0, 0, -2, []) := (congrFun pm_L_overstays 82).trans rfl
theorem rl_L_overstays_84 : (am_pg z_L_overstays).2 84 = some (.if_icmp .ne (8), 87, 92, 0, 0, 0, 0, []) := (congrFun pm_L_overstays 84).trans rfl
theorem rl_L_overstays_87 : (am_pg z_L_overstays).2 87 = some (.iload 8, 89, 8, 0, 0, 0, 0, []) := (congrFun pm_L_overstays 87).trans rfl
theorem rl_L_overstays_89 : (am_pg z_L_overstays).2 89 = some (.goto (5), 92, 94, 0, 0, 0, 0, []) := (congrFun pm_L_overstays 89).trans rfl
theorem rl_L_overstays_92 : (am_pg z_L_overstays).2 92 = some (.iload 6, 94, 6, 0, 0, 0, 0, []) := (congrFun pm_L_overstays 92).trans rfl
theorem rl_L_overstays_94 : (am_pg z_L_overstays).2 94 = some (.istore 6, 96, 6, 0, 0, 0, 0, []) := (congrFun pm_L_overstays 94).trans rfl
theorem rl_L_overstays_96 : (am_pg z_L_overstays).2 96 = some (.iload 7, 98, 7, 0, 0, 0, 0, []) := (congrFun pm_L_overstays 96).trans rfl
theorem rl_L_overstays_98 : (am_pg z_L_overstays).2 98 = some (.iload 9, 100, 9, 0, 0, 0, 0, []) := (congrFun pm_L_overstays 98).trans rfl
theorem rl_L_overstays_100 : (am_pg z_L_overstays).2 100 = some (.invokestatic 202, 103, 0, 2, 2, 3, 0, []) := (congrFun pm_L_overstays 100).trans rfl
theorem rl_L_overstays_103 : (am_pg z_L_overstays).2 103 = some (.istore 7, 105, 7, 0, 0, 0, 0, []) := (congrFun pm_L_overstays 103).trans rfl
theorem rl_L_overstays_105 : (am_pg z_L_overstays).2 105 = some (.iinc 8 (1), 108, 8, 0, 0, 0, 1, []) := (congrFun pm_L_overstays 105).trans rfl
theorem rl_L_overstays_108 : (am_pg z_L_overstays).2 108 = some (.goto (-53), 111, 55, 0, 0, 0, 0, []) := (congrFun pm_L_overstays 108).trans rfl
theorem rl_L_overstays_111 : (am_pg z_L_overstays).2 111 = some (.iload 4, 113, 4, 0, 0, 0, 0, []) := (congrFun pm_L_overstays 111).trans rfl
theorem rl_L_overstays_113 : (am_pg z_L_overstays).2 113 = some (.ifCond .ne (6), 116, 119, 0, 0, 0, 0, []) := (congrFun pm_L_overstays 113).trans rfl
theorem rl_L_overstays_116 : (am_pg z_L_overstays).2 116 = some (.iload 5, 118, 5, 0, 0, 0, 0, []) := (congrFun pm_L_overstays 116).trans rfl
theorem rl_L_overstays_118 : (am_pg z_L_overstays).2 118 = some (.ireturn, 119, 0, 0, 0, 0, 0, []) := (congrFun pm_L_overstays 118).trans rfl
theorem rl_L_overstays_119 : (am_pg z_L_overstays).2 119 = some (.iload 4, 121, 4, 0, 0, 0, 0, []) := (congrFun pm_L_overstays 119).trans rfl
theorem rl_L_overstays_121 : (am_pg z_L_overstays).2 121 = some (.iconst (1), 122, 0, 0, 0, 0, 1, []) := (congrFun pm_L_overstays 121).trans rfl
theorem rl_L_overstays_122 : (am_pg z_L_overstays).2 122 = some (.if_icmp .ne (8), 125, 130, 0, 0, 0, 0, []) := (congrFun pm_L_overstays 122).trans rfl
theorem rl_L_overstays_125 : (am_pg z_L_overstays).2 125 = some (.iload 6, 127, 6, 0, 0, 0, 0, []) := (congrFun pm_L_overstays 125).trans rfl
theorem rl_L_overstays_127 : (am_pg z_L_overstays).2 127 = some (.goto (5), 130, 132, 0, 0, 0, 0, []) := (congrFun pm_L_overstays 127).trans rfl
theorem rl_L_overstays_130 : (am_pg z_L_overstays).2 130 = some (.iload 7, 132, 7, 0, 0, 0, 0, []) := (congrFun pm_L_overstays 130).trans rfl
theorem rl_L_overstays_132 : (am_pg z_L_overstays).2 132 = some (.ireturn, 133, 0, 0, 0, 0, 0, []) := (congrFun pm_L_overstays 132).trans rfl
theorem rl_L_nth_0 : (am_pg z_L_nth).2 0 = some (.iload_n 1, 1, 1, 0, 0, 0, 0, []) := (congrFun pm_L_nth 0).trans rfl
theorem rl_L_nth_1 : (am_pg z_L_nth).2 1 = some (.invokestatic 113, 4, 69, 1, 0, 37, 0, []) := (congrFun pm_L_nth 1).trans rfl
theorem rl_L_nth_4 : (am_pg z_L_nth).2 4 = some (.ifCond .eq (16), 7, 20, 0, 0, 0, 0, []) := (congrFun pm_L_nth 4).trans rfl
theorem rl_L_nth_7 : (am_pg z_L_nth).2 7 = some (.iload_n 2, 8, 2, 0, 0, 0, 0, []) := (congrFun pm_L_nth 7).trans rfl
theorem rl_L_nth_8 : (am_pg z_L_nth).2 8 = some (.ifCond .lt (12), 11, 20, 0, 0, 0, 0, []) := (congrFun pm_L_nth 8).trans rfl
theorem rl_L_nth_11 : (am_pg z_L_nth).2 11 = some (.iload_n 3, 12, 3, 0, 0, 0, 0, []) := (congrFun pm_L_nth 11).trans rfl
theorem rl_L_nth_12 : (am_pg z_L_nth).2 12 = some (.iconst (0), 13, 0, 0, 0, 0, 0, []) := (congrFun pm_L_nth 12).trans rfl
theorem rl_L_nth_13 : (am_pg z_L_nth).2 13 = some (.iconst (2), 14, 0, 0, 0, 0, 2, []) := (congrFun pm_L_nth 13).trans rfl
theorem rl_L_nth_14 : (am_pg z_L_nth).2 14 = some (.invokestatic 133, 17, 65, 3, 0, 16, 0, []) := (congrFun pm_L_nth 14).trans rfl
theorem rl_L_nth_17 : (am_pg z_L_nth).2 17 = some (.ifCond .ne (5), 20, 22, 0, 0, 0, 0, []) := (congrFun pm_L_nth 17).trans rfl
theorem rl_L_nth_20 : (am_pg z_L_nth).2 20 = some (.iconst (-1), 21, 0, 0, 0, 0, -1, []) := (congrFun pm_L_nth 20).trans rfl
theorem rl_L_nth_21 : (am_pg z_L_nth).2 21 = some (.ireturn, 22, 0, 0, 0, 0, 0, []) := (congrFun pm_L_nth 21).trans rfl
theorem rl_L_nth_22 : (am_pg z_L_nth).2 22 = some (.iconst (0), 23, 0, 0, 0, 0, 0, []) := (congrFun pm_L_nth 22).trans rfl
theorem rl_L_nth_23 : (am_pg z_L_nth).2 23 = some (.istore 4, 25, 4, 0, 0, 0, 0, []) := (congrFun pm_L_nth 23).trans rfl
theorem rl_L_nth_25 : (am_pg z_L_nth).2 25 = some (.iconst (0), 26, 0, 0, 0, 0, 0, []) := (congrFun pm_L_nth 25).trans rfl
theorem rl_L_nth_26 : (am_pg z_L_nth).2 26 = some (.istore 5, 28, 5, 0, 0, 0, 0, []) := (congrFun pm_L_nth 26).trans rfl
theorem rl_L_nth_28 : (am_pg z_L_nth).2 28 = some (.iload 5, 30, 5, 0, 0, 0, 0, []) := (congrFun pm_L_nth 28).trans rfl
theorem rl_L_nth_30 : (am_pg z_L_nth).2 30 = some (.sipush (1080), 33, 0, 0, 0, 0, 1080, []) := (congrFun pm_L_nth 30).trans rfl
theorem rl_L_nth_33 : (am_pg z_L_nth).2 33 = some (.if_icmp .ge (90), 36, 123, 0, 0, 0, 0, []) := (congrFun pm_L_nth 33).trans rfl
theorem rl_L_nth_36 : (am_pg z_L_nth).2 36 = some (.aload_n 0, 37, 0, 0, 0, 0, 0, []) := (congrFun pm_L_nth 36).trans rfl
theorem rl_L_nth_37 : (am_pg z_L_nth).2 37 = some (.getfield 10, 40, 8, 0, 0, 67, 0, []) := (congrFun pm_L_nth 37).trans rfl
theorem rl_L_nth_40 : (am_pg z_L_nth).2 40 = some (.getfield 95, 43, 6, 0, 0, 24, 0, []) := (congrFun pm_L_nth 40).trans rfl
theorem rl_L_nth_43 : (am_pg z_L_nth).2 43 = some (.iload 5, 45, 5, 0, 0, 0, 0, []) := (congrFun pm_L_nth 43).trans rfl
theorem rl_L_nth_45 : (am_pg z_L_nth).2 45 = some (.invokevirtual 150, 48, 237, 1, 1, 47, 0, []) := (congrFun pm_L_nth 45).trans rfl
theorem rl_L_nth_48 : (am_pg z_L_nth).2 48 = some (.iload_n 1, 49, 1, 0, 0, 0, 0, []) := (congrFun pm_L_nth 48).trans rfl
theorem rl_L_nth_49 : (am_pg z_L_nth).2 49 = some (.if_icmp .ne (68), 52, 117, 0, 0, 0, 0, []) := (congrFun pm_L_nth 49).trans rfl
theorem rl_L_nth_52 : (am_pg z_L_nth).2 52 = some (.aload_n 0, 53, 0, 0, 0, 0, 0, []) := (congrFun pm_L_nth 52).trans rfl
theorem rl_L_nth_53 : (am_pg z_L_nth).2 53 = some (.getfield 10, 56, 8, 0, 0, 67, 0, []) := (congrFun pm_L_nth 53).trans rfl
theorem rl_L_nth_56 : (am_pg z_L_nth).2 56 = some (.getfield 95, 59, 6, 0, 0, 24, 0, []) := (congrFun pm_L_nth 56).trans rfl
theorem rl_L_nth_59 : (am_pg z_L_nth).2 59 = some (.iload 5, 61, 5, 0, 0, 0, 0, []) := (congrFun pm_L_nth 59).trans rfl
theorem rl_L_nth_61 : (am_pg z_L_nth).2 61 = some (.invokevirtual 199, 64, 238, 1, 1, 73, 0, []) := (congrFun pm_L_nth 61).trans rfl
theorem rl_L_nth_64 : (am_pg z_L_nth).2 64 = some (.ifCond .eq (53), 67, 117, 0, 0, 0, 0, []) := (congrFun pm_L_nth 64).trans rfl
theorem rl_L_nth_67 : (am_pg z_L_nth).2 67 = some (.iload 4, 69, 4, 0, 0, 0, 0, []) := (congrFun pm_L_nth 67).trans rfl
theorem rl_L_nth_69 : (am_pg z_L_nth).2 69 = some (.iload_n 2, 70, 2, 0, 0, 0, 0, []) := (congrFun pm_L_nth 69).trans rfl
theorem rl_L_nth_70 : (am_pg z_L_nth).2 70 = some (.if_icmp .ne (44), 73, 114, 0, 0, 0, 0, []) := (congrFun pm_L_nth 70).trans rfl
theorem rl_L_nth_73 : (am_pg z_L_nth).2 73 = some (.aload_n 0, 74, 0, 0, 0, 0, 0, []) := (congrFun pm_L_nth 73).trans rfl
theorem rl_L_nth_74 : (am_pg z_L_nth).2 74 = some (.getfield 10, 77, 8, 0, 0, 67, 0, []) := (congrFun pm_L_nth 74).trans rfl
theorem rl_L_nth_77 : (am_pg z_L_nth).2 77 = some (.getfield 95, 80, 6, 0, 0, 24, 0, []) := (congrFun pm_L_nth 77).trans rfl
theorem rl_L_nth_80 : (am_pg z_L_nth).2 80 = some (.iload 5, 82, 5, 0, 0, 0, 0, []) := (congrFun pm_L_nth 80).trans rfl
theorem rl_L_nth_82 : (am_pg z_L_nth).2 82 = some (.invokevirtual 242, 85, 239, 1, 1, 96, 0, []) := (congrFun pm_L_nth 82).trans rfl
theorem rl_L_nth_85 : (am_pg z_L_nth).2 85 = some (.istore 6, 87, 6, 0, 0, 0, 0, []) := (congrFun pm_L_nth 85).trans rfl
theorem rl_L_nth_87 : (am_pg z_L_nth).2 87 = some (.iload_n 3, 88, 3, 0, 0, 0, 0, []) := (congrFun pm_L_nth 87).trans rfl
theorem rl_L_nth_88 : (am_pg z_L_nth).2 88 = some (.ifCond .ne (8), 91, 96, 0, 0, 0, 0, []) := (congrFun pm_L_nth 88).trans rfl
theorem rl_L_nth_91 : (am_pg z_L_nth).2 91 = some (.iload 5, 93, 5, 0, 0, 0, 0, []) := (congrFun pm_L_nth 91).trans rfl
theorem rl_L_nth_93 : (am_pg z_L_nth).2 93 = some (.goto (20), 96, 113, 0, 0, 0, 0, []) := (congrFun pm_L_nth 93).trans rfl
theorem rl_L_nth_96 : (am_pg z_L_nth).2 96 = some (.iload_n 3, 97, 3, 0, 0, 0, 0, []) := (congrFun pm_L_nth 96).trans rfl
theorem rl_L_nth_97 : (am_pg z_L_nth).2 97 = some (.iconst (1), 98, 0, 0, 0, 0, 1, []) := (congrFun pm_L_nth 97).trans rfl
theorem rl_L_nth_98 : (am_pg z_L_nth).2 98 = some (.if_icmp .ne (8), 101, 106, 0, 0, 0, 0, []) := (congrFun pm_L_nth 98).trans rfl
theorem rl_L_nth_101 : (am_pg z_L_nth).2 101 = some (.iload 6, 103, 6, 0, 0, 0, 0, []) := (congrFun pm_L_nth 101).trans rfl
theorem rl_L_nth_103 : (am_pg z_L_nth).2 103 = some (.goto (10), 106, 113, 0, 0, 0, 0, []) := (congrFun pm_L_nth 103).trans rfl
theorem rl_L_nth_106 : (am_pg z_L_nth).2 106 = some (.iload 6, 108, 6, 0, 0, 0, 0, []) := (congrFun pm_L_nth 106).trans rfl
theorem rl_L_nth_108 : (am_pg z_L_nth).2 108 = some (.iload 5, 110, 5, 0, 0, 0, 0, []) := (congrFun pm_L_nth 108).trans rfl
theorem rl_L_nth_110 : (am_pg z_L_nth).2 110 = some (.isub, 111, 0, 0, 0, 0, 0, []) := (congrFun pm_L_nth 110).trans rfl
theorem rl_L_nth_111 : (am_pg z_L_nth).2 111 = some (.iconst (1), 112, 0, 0, 0, 0, 1, []) := (congrFun pm_L_nth 111).trans rfl
theorem rl_L_nth_112 : (am_pg z_L_nth).2 112 = some (.iadd, 113, 0, 0, 0, 0, 0, []) := (congrFun pm_L_nth 112).trans rfl
theorem rl_L_nth_113 : (am_pg z_L_nth).2 113 = some (.ireturn, 114, 0, 0, 0, 0, 0, []) := (congrFun pm_L_nth 113).trans rfl
theorem rl_L_nth_114 : (am_pg z_L_nth).2 114 = some (.iinc 4 (1), 117, 4, 0, 0, 0, 1, []) := (congrFun pm_L_nth 114).trans rfl
theorem rl_L_nth_117 : (am_pg z_L_nth).2 117 = some (.iinc 5 (1), 120, 5, 0, 0, 0, 1, []) := (congrFun pm_L_nth 117).trans rfl
theorem rl_L_nth_120 : (am_pg z_L_nth).2 120 = some (.goto (-92), 123, 28, 0, 0, 0, 0, []) := (congrFun pm_L_nth 120).trans rfl
theorem rl_L_nth_123 : (am_pg z_L_nth).2 123 = some (.bipush (-2), 125, 0, 0, 0, 0, -2, []) := (congrFun pm_L_nth 123).trans rfl
theorem rl_L_nth_125 : (am_pg z_L_nth).2 125 = some (.ireturn, 126, 0, 0, 0, 0, 0, []) := (congrFun pm_L_nth 125).trans rfl
theorem rl_L_away_0 : (am_pg z_L_away).2 0 = some (.iload_n 1, 1, 1, 0, 0, 0, 0, []) := (congrFun pm_L_away 0).trans rfl
theorem rl_L_away_1 : (am_pg z_L_away).2 1 = some (.invokestatic 113, 4, 69, 1, 0, 37, 0, []) := (congrFun pm_L_away 1).trans rfl
theorem rl_L_away_4 : (am_pg z_L_away).2 4 = some (.ifCond .eq (12), 7, 16, 0, 0, 0, 0, []) := (congrFun pm_L_away 4).trans rfl
theorem rl_L_away_7 : (am_pg z_L_away).2 7 = some (.iload_n 2, 8, 2, 0, 0, 0, 0, []) := (congrFun pm_L_away 7).trans rfl
theorem rl_L_away_8 : (am_pg z_L_away).2 8 = some (.iconst (0), 9, 0, 0, 0, 0, 0, []) := (congrFun pm_L_away 8).trans rfl
theorem rl_L_away_9 : (am_pg z_L_away).2 9 = some (.iconst (1), 10, 0, 0, 0, 0, 1, []) := (congrFun pm_L_away 9).trans rfl
theorem rl_L_away_10 : (am_pg z_L_away).2 10 = some (.invokestatic 133, 13, 65, 3, 0, 16, 0, []) := (congrFun pm_L_away 10).trans rfl
theorem rl_L_away_13 : (am_pg z_L_away).2 13 = some (.ifCond .ne (5), 16, 18, 0, 0, 0, 0, []) := (congrFun pm_L_away 13).trans rfl
theorem rl_L_away_16 : (am_pg z_L_away).2 16 = some (.iconst (-1), 17, 0, 0, 0, 0, -1, []) := (congrFun pm_L_away 16).trans rfl
theorem rl_L_away_17 : (am_pg z_L_away).2 17 = some (.ireturn, 18, 0, 0, 0, 0, 0, []) := (congrFun pm_L_away 17).trans rfl
theorem rl_L_away_18 : (am_pg z_L_away).2 18 = some (.iconst (0), 19, 0, 0, 0, 0, 0, []) := (congrFun pm_L_away 18).trans rfl
theorem rl_L_away_19 : (am_pg z_L_away).2 19 = some (.istore_n 3, 20, 3, 0, 0, 0, 0, []) := (congrFun pm_L_away 19).trans rfl
theorem rl_L_away_20 : (am_pg z_L_away).2 20 = some (.bipush (-2), 22, 0, 0, 0, 0, -2, []) := (congrFun pm_L_away 20).trans rfl
theorem rl_L_away_22 : (am_pg z_L_away).2 22 = some (.istore 4, 24, 4, 0, 0, 0, 0, []) := (congrFun pm_L_away 22).trans rfl
theorem rl_L_away_24 : (am_pg z_L_away).2 24 = some (.iconst (0), 25, 0, 0, 0, 0, 0, []) := (congrFun pm_L_away 24).trans rfl
theorem rl_L_away_25 : (am_pg z_L_away).2 25 = some (.istore 5, 27, 5, 0, 0, 0, 0, []) := (congrFun pm_L_away 25).trans rfl
theorem rl_L_away_27 : (am_pg z_L_away).2 27 = some (.iconst (0), 28, 0, 0, 0, 0, 0, []) := (congrFun pm_L_away 27).trans rfl
theorem rl_L_away_28 : (am_pg z_L_away).2 28 = some (.istore 6, 30, 6, 0, 0, 0, 0, []) := (congrFun pm_L_away 28).trans rfl
theorem rl_L_away_30 : (am_pg z_L_away).2 30 = some (.iload 6, 32, 6, 0, 0, 0, 0, []) := (congrFun pm_L_away 30).trans rfl
theorem rl_L_away_32 : (am_pg z_L_away).2 32 = some (.sipush (1080), 35, 0, 0, 0, 0, 1080, []) := (congrFun pm_L_away 32).trans rfl
theorem rl_L_away_35 : (am_pg z_L_away).2 35 = some (.if_icmp .ge (53), 38, 88, 0, 0, 0, 0, []) := (congrFun pm_L_away 35).trans rfl
theorem rl_L_away_38 : (am_pg z_L_away).2 38 = some (.aload_n 0, 39, 0, 0, 0, 0, 0, []) := (congrFun pm_L_away 38).trans rfl
theorem rl_L_away_39 : (am_pg z_L_away).2 39 = some (.getfield 10, 42, 8, 0, 0, 67, 0, []) := (congrFun pm_L_away 39).trans rfl
theorem rl_L_away_42 : (am_pg z_L_away).2 42 = some (.getfield 95, 45, 6, 0, 0, 24, 0, []) := (congrFun pm_L_away 42).trans rfl
theorem rl_L_away_45 : (am_pg z_L_away).2 45 = some (.iload 6, 47, 6, 0, 0, 0, 0, []) := (congrFun pm_L_away 45).trans rfl
theorem rl_L_away_47 : (am_pg z_L_away).2 47 = some (.invokevirtual 150, 50, 237, 1, 1, 47, 0, []) := (congrFun pm_L_away 47).trans rfl
theorem rl_L_away_50 : (am_pg z_L_away).2 50 = some (.iload_n 1, 51, 1, 0, 0, 0, 0, []) := (congrFun pm_L_away 50).trans rfl
theorem rl_L_away_51 : (am_pg z_L_away).2 51 = some (.if_icmp .ne (7), 54, 58, 0, 0, 0, 0, []) := (congrFun pm_L_away 51).trans rfl
theorem rl_L_away_54 : (am_pg z_L_away).2 54 = some (.iconst (0), 55, 0, 0, 0, 0, 0, []) := (congrFun pm_L_away 54).trans rfl
theorem rl_L_away_55 : (am_pg z_L_away).2 55 = some (.goto (7), 58, 62, 0, 0, 0, 0, []) := (congrFun pm_L_away 55).trans rfl
theorem rl_L_away_58 : (am_pg z_L_away).2 58 = some (.iload 5, 60, 5, 0, 0, 0, 0, []) := (congrFun pm_L_away 58).trans rfl
theorem rl_L_away_60 : (am_pg z_L_away).2 60 = some (.iconst (1), 61, 0, 0, 0, 0, 1, []) := (congrFun pm_L_away 60).trans rfl
theorem rl_L_away_61 : (am_pg z_L_away).2 61 = some (.iadd, 62, 0, 0, 0, 0, 0, []) := (congrFun pm_L_away 61).trans rfl
theorem rl_L_away_62 : (am_pg z_L_away).2 62 = some (.istore 5, 64, 5, 0, 0, 0, 0, []) := (congrFun pm_L_away 62).trans rfl
theorem rl_L_away_64 : (am_pg z_L_away).2 64 = some (.iload 5, 66, 5, 0, 0, 0, 0, []) := (congrFun pm_L_away 64).trans rfl
theorem rl_L_away_66 : (am_pg z_L_away).2 66 = some (.iload_n 3, 67, 3, 0, 0, 0, 0, []) := (congrFun pm_L_away 66).trans rfl
theorem rl_L_away_67 : (am_pg z_L_away).2 67 = some (.if_icmp .le (15), 70, 82, 0, 0, 0, 0, []) := (congrFun pm_L_away 67).trans rfl
theorem rl_L_away_70 : (am_pg z_L_away).2 70 = some (.iload 5, 72, 5, 0, 0, 0, 0, []) := (congrFun pm_L_away 70).trans rfl
theorem rl_L_away_72 : (am_pg z_L_away).2 72 = some (.istore_n 3, 73, 3, 0, 0, 0, 0, []) := (congrFun pm_L_away 72).trans rfl
theorem rl_L_away_73 : (am_pg z_L_away).2 73 = some (.iload 6, 75, 6, 0, 0, 0, 0, []) := (congrFun pm_L_away 73).trans rfl
theorem rl_L_away_75 : (am_pg z_L_away).2 75 = some (.iload 5, 77, 5, 0, 0, 0, 0, []) := (congrFun pm_L_away 75).trans rfl
theorem rl_L_away_77 : (am_pg z_L_away).2 77 = some (.isub, 78, 0, 0, 0, 0, 0, []) := (congrFun pm_L_away 77).trans rfl
theorem rl_L_away_78 : (am_pg z_L_away).2 78 = some (.iconst (1), 79, 0, 0, 0, 0, 1, []) := (congrFun pm_L_away 78).trans rfl
theorem rl_L_away_79 : (am_pg z_L_away).2 79 = some (.iadd, 80, 0, 0, 0, 0, 0, []) := (congrFun pm_L_away 79).trans rfl
theorem rl_L_away_80 : (am_pg z_L_away).2 80 = some (.istore 4, 82, 4, 0, 0, 0, 0, []) := (congrFun pm_L_away 80).trans rfl
theorem rl_L_away_82 : (am_pg z_L_away).2 82 = some (.iinc 6 (1), 85, 6, 0, 0, 0, 1, []) := (congrFun pm_L_away 82).trans rfl
theorem rl_L_away_85 : (am_pg z_L_away).2 85 = some (.goto (-55), 88, 30, 0, 0, 0, 0, []) := (congrFun pm_L_away 85).trans rfl
theorem rl_L_away_88 : (am_pg z_L_away).2 88 = some (.iload_n 2, 89, 2, 0, 0, 0, 0, []) := (congrFun pm_L_away 88).trans rfl
theorem rl_L_away_89 : (am_pg z_L_away).2 89 = some (.ifCond .ne (7), 92, 96, 0, 0, 0, 0, []) := (congrFun pm_L_away 89).trans rfl
theorem rl_L_away_92 : (am_pg z_L_away).2 92 = some (.iload_n 3, 93, 3, 0, 0, 0, 0, []) := (congrFun pm_L_away 92).trans rfl
theorem rl_L_away_93 : (am_pg z_L_away).2 93 = some (.goto (5), 96, 98, 0, 0, 0, 0, []) := (congrFun pm_L_away 93).trans rfl
theorem rl_L_away_96 : (am_pg z_L_away).2 96 = some (.iload 4, 98, 4, 0, 0, 0, 0, []) := (congrFun pm_L_away 96).trans rfl
theorem rl_L_away_98 : (am_pg z_L_away).2 98 = some (.ireturn, 99, 0, 0, 0, 0, 0, []) := (congrFun pm_L_away 98).trans rfl
theorem rl_L_travels_0 : (am_pg z_L_travels).2 0 = some (.iload_n 1, 1, 1, 0, 0, 0, 0, []) := (congrFun pm_L_travels 0).trans rfl
theorem rl_L_travels_1 : (am_pg z_L_travels).2 1 = some (.invokestatic 113, 4, 69, 1, 0, 37, 0, []) := (congrFun pm_L_travels 1).trans rfl
theorem rl_L_travels_4 : (am_pg z_L_travels).2 4 = some (.ifCond .eq (10), 7, 14, 0, 0, 0, 0, []) := (congrFun pm_L_travels 4).trans rfl
theorem rl_L_travels_7 : (am_pg z_L_travels).2 7 = some (.iload_n 2, 8, 2, 0, 0, 0, 0, []) := (congrFun pm_L_travels 7).trans rfl
theorem rl_L_travels_8 : (am_pg z_L_travels).2 8 = some (.invokestatic 190, 11, 68, 1, 0, 70, 0, []) := (congrFun pm_L_travels 8).trans rfl
theorem rl_L_travels_11 : (am_pg z_L_travels).2 11 = some (.ifCond .ne (5), 14, 16, 0, 0, 0, 0, []) := (congrFun pm_L_travels 11).trans rfl
theorem rl_L_travels_14 : (am_pg z_L_travels).2 14 = some (.iconst (-1), 15, 0, 0, 0, 0, -1, []) := (congrFun pm_L_travels 14).trans rfl
theorem rl_L_travels_15 : (am_pg z_L_travels).2 15 = some (.ireturn, 16, 0, 0, 0, 0, 0, []) := (congrFun pm_L_travels 15).trans rfl
theorem rl_L_travels_16 : (am_pg z_L_travels).2 16 = some (.iconst (0), 17, 0, 0, 0, 0, 0, []) := (congrFun pm_L_travels 16).trans rfl
theorem rl_L_travels_17 : (am_pg z_L_travels).2 17 = some (.istore_n 3, 18, 3, 0, 0, 0, 0, []) := (congrFun pm_L_travels 17).trans rfl
theorem rl_L_travels_18 : (am_pg z_L_travels).2 18 = some (.iload_n 2, 19, 2, 0, 0, 0, 0, []) := (congrFun pm_L_travels 18).trans rfl
theorem rl_L_travels_19 : (am_pg z_L_travels).2 19 = some (.invokestatic 193, 22, 75, 1, 0, 71, 0, []) := (congrFun pm_L_travels 19).trans rfl
theorem rl_L_travels_22 : (am_pg z_L_travels).2 22 = some (.istore 4, 24, 4, 0, 0, 0, 0, []) := (congrFun pm_L_travels 22).trans rfl
theorem rl_L_travels_24 : (am_pg z_L_travels).2 24 = some (.iload 4, 26, 4, 0, 0, 0, 0, []) := (congrFun pm_L_travels 24).trans rfl
theorem rl_L_travels_26 : (am_pg z_L_travels).2 26 = some (.iload_n 2, 27, 2, 0, 0, 0, 0, []) := (congrFun pm_L_travels 26).trans rfl
theorem rl_L_travels_27 : (am_pg z_L_travels).2 27 = some (.invokestatic 196, 30, 76, 1, 0, 72, 0, []) := (congrFun pm_L_travels 27).trans rfl
theorem rl_L_travels_30 : (am_pg z_L_travels).2 30 = some (.if_icmp .gt (101), 33, 131, 0, 0, 0, 0, []) := (congrFun pm_L_travels 30).trans rfl
theorem rl_L_travels_33 : (am_pg z_L_travels).2 33 = some (.iload 4, 35, 4, 0, 0, 0, 0, []) := (congrFun pm_L_travels 33).trans rfl
theorem rl_L_travels_35 : (am_pg z_L_travels).2 35 = some (.ifCond .le (25), 38, 60, 0, 0, 0, 0, []) := (congrFun pm_L_travels 35).trans rfl
theorem rl_L_travels_38 : (am_pg z_L_travels).2 38 = some (.aload_n 0, 39, 0, 0, 0, 0, 0, []) := (congrFun pm_L_travels 38).trans rfl
theorem rl_L_travels_39 : (am_pg z_L_travels).2 39 = some (.getfield 10, 42, 8, 0, 0, 67, 0, []) := (congrFun pm_L_travels 39).trans rfl
theorem rl_L_travels_42 : (am_pg z_L_travels).2 42 = some (.getfield 95, 45, 6, 0, 0, 24, 0, []) := (congrFun pm_L_travels 42).trans rfl
theorem rl_L_travels_45 : (am_pg z_L_travels).2 45 = some (.iload 4, 47, 4, 0, 0, 0, 0, []) := (congrFun pm_L_travels 45).trans rfl
theorem rl_L_travels_47 : (am_pg z_L_travels).2 47 = some (.iconst (1), 48, 0, 0, 0, 0, 1, []) := (congrFun pm_L_travels 47).trans rfl
theorem rl_L_travels_48 : (am_pg z_L_travels).2 48 = some (.isub, 49, 0, 0, 0, 0, 0, []) := (congrFun pm_L_travels 48).trans rfl
theorem rl_L_travels_49 : (am_pg z_L_travels).2 49 = some (.invokevirtual 150, 52, 237, 1, 1, 47, 0, []) := (congrFun pm_L_travels 49).trans rfl
theorem rl_L_travels_52 : (am_pg z_L_travels).2 52 = some (.iload_n 1, 53, 1, 0, 0, 0, 0, []) := (congrFun pm_L_travels 52).trans rfl
theorem rl_L_travels_53 : (am_pg z_L_travels).2 53 = some (.if_icmp .eq (7), 56, 60, 0, 0, 0, 0, []) := (congrFun pm_L_travels 53).trans rfl
theorem rl_L_travels_56 : (am_pg z_L_travels).2 56 = some (.iconst (1), 57, 0, 0, 0, 0, 1, []) := (congrFun pm_L_travels 56).trans rfl
theorem rl_L_travels_57 : (am_pg z_L_travels).2 57 = some (.goto (4), 60, 61, 0, 0, 0, 0, []) := (congrFun pm_L_travels 57).trans rfl
theorem rl_L_travels_60 : (am_pg z_L_travels).2 60 = some (.iconst (0), 61, 0, 0, 0, 0, 0, []) := (congrFun pm_L_travels 60).trans rfl
theorem rl_L_travels_61 : (am_pg z_L_travels).2 61 = some (.istore 5, 63, 5, 0, 0, 0, 0, []) := (congrFun pm_L_travels 61).trans rfl
theorem rl_L_travels_63 : (am_pg z_L_travels).2 63 = some (.iload 4, 65, 4, 0, 0, 0, 0, []) := (congrFun pm_L_travels 63).trans rfl
theorem rl_L_travels_65 : (am_pg z_L_travels).2 65 = some (.sipush (1079), 68, 0, 0, 0, 0, 1079, []) := (congrFun pm_L_travels 65).trans rfl
theorem rl_L_travels_68 : (am_pg z_L_travels).2 68 = some (.if_icmp .ge (25), 71, 93, 0, 0, 0, 0, []) := (congrFun pm_L_travels 68).trans rfl
theorem rl_L_travels_71 : (am_pg z_L_travels).2 71 = some (.aload_n 0, 72, 0, 0, 0, 0, 0, []) := (congrFun pm_L_travels 71).trans rfl
theorem rl_L_travels_72 : (am_pg z_L_travels).2 72 = some (.getfield 10, 75, 8, 0, 0, 67, 0, []) := (congrFun pm_L_travels 72).trans rfl
theorem rl_L_travels_75 : (am_pg z_L_travels).2 75 = some (.getfield 95, 78, 6, 0, 0, 24, 0, []) := (congrFun pm_L_travels 75).trans rfl
theorem rl_L_travels_78 : (am_pg z_L_travels).2 78 = some (.iload 4, 80, 4, 0, 0, 0, 0, []) := (congrFun pm_L_travels 78).trans rfl
theorem rl_L_travels_80 : (am_pg z_L_travels).2 80 = some (.iconst (1), 81, 0, 0, 0, 0, 1, []) := (congrFun pm_L_travels 80).trans rfl
theorem rl_L_travels_81 : (am_pg z_L_travels).2 81 = some (.iadd, 82, 0, 0, 0, 0, 0, []) := (congrFun pm_L_travels 81).trans rfl
theorem rl_L_travels_82 : (am_pg z_L_travels).2 82 = some (.invokevirtual 150, 85, 237, 1, 1, 47, 0, []) := (congrFun pm_L_travels 82).trans rfl
theorem rl_L_travels_85 : (am_pg z_L_travels).2 85 = some (.iload_n 1, 86, 1, 0, 0, 0, 0, []) := (congrFun pm_L_travels 85).trans rfl
theorem rl_L_travels_86 : (am_pg z_L_travels).2 86 = some (.if_icmp .eq (7), 89, 93, 0, 0, 0, 0, []) := (congrFun pm_L_travels 86).trans rfl
theorem rl_L_travels_89 : (am_pg z_L_travels).2 89 = some (.iconst (1), 90, 0, 0, 0, 0, 1, []) := (congrFun pm_L_travels 89).trans rfl
theorem rl_L_travels_90 : (am_pg z_L_travels).2 90 = some (.goto (4), 93, 94, 0, 0, 0, 0, []) := (congrFun pm_L_travels 90).trans rfl
theorem rl_L_travels_93 : (am_pg z_L_travels).2 93 = some (.iconst (0), 94, 0, 0, 0, 0, 0, []) := (congrFun pm_L_travels 93).trans rfl
theorem rl_L_travels_94 : (am_pg z_L_travels).2 94 = some (.istore 6, 96, 6, 0, 0, 0, 0, []) := (congrFun pm_L_travels 94).trans rfl
theorem rl_L_travels_96 : (am_pg z_L_travels).2 96 = some (.aload_n 0, 97, 0, 0, 0, 0, 0, []) := (congrFun pm_L_travels 96).trans rfl
theorem rl_L_travels_97 : (am_pg z_L_travels).2 97 = some (.getfield 10, 100, 8, 0, 0, 67, 0, []) := (congrFun pm_L_travels 97).trans rfl
theorem rl_L_travels_100 : (am_pg z_L_travels).2 100 = some (.getfield 95, 103, 6, 0, 0, 24, 0, []) := (congrFun pm_L_travels 100).trans rfl
theorem rl_L_travels_103 : (am_pg z_L_travels).2 103 = some (.iload 4, 105, 4, 0, 0, 0, 0, []) := (congrFun pm_L_travels 103).trans rfl
theorem rl_L_travels_105 : (am_pg z_L_travels).2 105 = some (.invokevirtual 150, 108, 237, 1, 1, 47, 0, []) := (congrFun pm_L_travels 105).trans rfl
theorem rl_L_travels_108 : (am_pg z_L_travels).2 108 = some (.iload_n 1, 109, 1, 0, 0, 0, 0, []) := (congrFun pm_L_travels 108).trans rfl
theorem rl_L_travels_109 : (am_pg z_L_travels).2 109 = some (.if_icmp .ne (16), 112, 125, 0, 0, 0, 0, []) := (congrFun pm_L_travels 109).trans rfl
theorem rl_L_travels_112 : (am_pg z_L_travels).2 112 = some (.iload 5, 114, 5, 0, 0, 0, 0, []) := (congrFun pm_L_travels 112).trans rfl
theorem rl_L_travels_114 : (am_pg z_L_travels).2 114 = some (.ifCond .ne (8), 117, 122, 0, 0, 0, 0, []) := (congrFun pm_L_travels 114).trans rfl
theorem rl_L_travels_117 : (am_pg z_L_travels).2 117 = some (.iload 6, 119, 6, 0, 0, 0, 0, []) := (congrFun pm_L_travels 117).trans rfl
theorem rl_L_travels_119 : (am_pg z_L_travels).2 119 = some (.ifCond .eq (6), 122, 125, 0, 0, 0, 0, []) := (congrFun pm_L_travels 119).trans rfl
theorem rl_L_travels_122 : (am_pg z_L_travels).2 122 = some (.iinc 3 (1), 125, 3, 0, 0, 0, 1, []) := (congrFun pm_L_travels 122).trans rfl
theorem rl_L_travels_125 : (am_pg z_L_travels).2 125 = some (.iinc 4 (1), 128, 4, 0, 0, 0, 1, []) := (congrFun pm_L_travels 125).trans rfl
theorem rl_L_travels_128 : (am_pg z_L_travels).2 128 = some (.goto (-104), 131, 24, 0, 0, 0, 0, []) := (congrFun pm_L_travels 128).trans rfl
theorem rl_L_travels_131 : (am_pg z_L_travels).2 131 = some (.iload_n 3, 132, 3, 0, 0, 0, 0, []) := (congrFun pm_L_travels 131).trans rfl
theorem rl_L_travels_132 : (am_pg z_L_travels).2 132 = some (.ireturn, 133, 0, 0, 0, 0, 0, []) := (congrFun pm_L_travels 132).trans rfl
theorem rl_L_most_0 : (am_pg z_L_most).2 0 = some (.iload_n 1, 1, 1, 0, 0, 0, 0, []) := (congrFun pm_L_most 0).trans rfl
theorem rl_L_most_1 : (am_pg z_L_most).2 1 = some (.invokestatic 113, 4, 69, 1, 0, 37, 0, []) := (congrFun pm_L_most 1).trans rfl
theorem rl_L_most_4 : (am_pg z_L_most).2 4 = some (.ifCond .eq (17), 7, 21, 0, 0, 0, 0, []) := (congrFun pm_L_most 4).trans rfl
theorem rl_L_most_7 : (am_pg z_L_most).2 7 = some (.iload_n 2, 8, 2, 0, 0, 0, 0, []) := (congrFun pm_L_most 7).trans rfl
theorem rl_L_most_8 : (am_pg z_L_most).2 8 = some (.invokestatic 169, 11, 72, 1, 0, 59, 0, []) := (congrFun pm_L_most 8).trans rfl
theorem rl_L_most_11 : (am_pg z_L_most).2 11 = some (.ifCond .eq (10), 14, 21, 0, 0, 0, 0, []) := (congrFun pm_L_most 11).trans rfl
theorem rl_L_most_14 : (am_pg z_L_most).2 14 = some (.iload_n 3, 15, 3, 0, 0, 0, 0, []) := (congrFun pm_L_most 14).trans rfl
theorem rl_L_most_15 : (am_pg z_L_most).2 15 = some (.invokestatic 190, 18, 68, 1, 0, 70, 0, []) := (congrFun pm_L_most 15).trans rfl
theorem rl_L_most_18 : (am_pg z_L_most).2 18 = some (.ifCond .ne (5), 21, 23, 0, 0, 0, 0, []) := (congrFun pm_L_most 18).trans rfl
theorem rl_L_most_21 : (am_pg z_L_most).2 21 = some (.iconst (-1), 22, 0, 0, 0, 0, -1, []) := (congrFun pm_L_most 21).trans rfl
theorem rl_L_most_22 : (am_pg z_L_most).2 22 = some (.ireturn, 23, 0, 0, 0, 0, 0, []) := (congrFun pm_L_most 22).trans rfl
theorem rl_L_most_23 : (am_pg z_L_most).2 23 = some (.aload_n 0, 24, 0, 0, 0, 0, 0, []) := (congrFun pm_L_most 23).trans rfl
theorem rl_L_most_24 : (am_pg z_L_most).2 24 = some (.getfield 56, 27, 8, 6, 0, 73, 0, []) := (congrFun pm_L_most 24).trans rfl
theorem rl_L_most_27 : (am_pg z_L_most).2 27 = some (.aload_n 0, 28, 0, 0, 0, 0, 0, []) := (congrFun pm_L_most 27).trans rfl
theorem rl_L_most_28 : (am_pg z_L_most).2 28 = some (.getfield 10, 31, 8, 0, 0, 67, 0, []) := (congrFun pm_L_most 28).trans rfl
theorem rl_L_most_31 : (am_pg z_L_most).2 31 = some (.getfield 95, 34, 6, 0, 0, 24, 0, []) := (congrFun pm_L_most 31).trans rfl
theorem rl_L_most_34 : (am_pg z_L_most).2 34 = some (.invokevirtual 245, 37, 210, 1, 0, 100, 0, []) := (congrFun pm_L_most 34).trans rfl
theorem rl_L_most_37 : (am_pg z_L_most).2 37 = some (.aload_n 0, 38, 0, 0, 0, 0, 0, []) := (congrFun pm_L_most 37).trans rfl
theorem rl_L_most_38 : (am_pg z_L_most).2 38 = some (.getfield 56, 41, 8, 6, 0, 73, 0, []) := (congrFun pm_L_most 38).trans rfl
theorem rl_L_most_41 : (am_pg z_L_most).2 41 = some (.iload_n 1, 42, 1, 0, 0, 0, 0, []) := (congrFun pm_L_most 41).trans rfl
theorem rl_L_most_42 : (am_pg z_L_most).2 42 = some (.iload_n 2, 43, 2, 0, 0, 0, 0, []) := (congrFun pm_L_most 42).trans rfl
theorem rl_L_most_43 : (am_pg z_L_most).2 43 = some (.iload_n 3, 44, 3, 0, 0, 0, 0, []) := (congrFun pm_L_most 43).trans rfl
theorem rl_L_most_44 : (am_pg z_L_most).2 44 = some (.invokevirtual 248, 47, 214, 3, 0, 105, 0, []) := (congrFun pm_L_most 44).trans rfl
theorem rl_L_most_47 : (am_pg z_L_most).2 47 = some (.ireturn, 48, 0, 0, 0, 0, 0, []) := (congrFun pm_L_most 47).trans rfl
theorem rl_L_tight_0 : (am_pg z_L_tight).2 0 = some (.iload_n 1, 1, 1, 0, 0, 0, 0, []) := (congrFun pm_L_tight 0).trans rfl
theorem rl_L_tight_1 : (am_pg z_L_tight).2 1 = some (.invokestatic 113, 4, 69, 1, 0, 37, 0, []) := (congrFun pm_L_tight 1).trans rfl
theorem rl_L_tight_4 : (am_pg z_L_tight).2 4 = some (.ifCond .eq (23), 7, 27, 0, 0, 0, 0, []) := (congrFun pm_L_tight 4).trans rfl
theorem rl_L_tight_7 : (am_pg z_L_tight).2 7 = some (.iload_n 2, 8, 2, 0, 0, 0, 0, []) := (congrFun pm_L_tight 7).trans rfl
theorem rl_L_tight_8 : (am_pg z_L_tight).2 8 = some (.iconst (1), 9, 0, 0, 0, 0, 1, []) := (congrFun pm_L_tight 8).trans rfl
theorem rl_L_tight_9 : (am_pg z_L_tight).2 9 = some (.sipush (1080), 12, 0, 0, 0, 0, 1080, []) := (congrFun pm_L_tight 9).trans rfl
theorem rl_L_tight_12 : (am_pg z_L_tight).2 12 = some (.invokestatic 133, 15, 65, 3, 0, 16, 0, []) := (congrFun pm_L_tight 12).trans rfl
theorem rl_L_tight_15 : (am_pg z_L_tight).2 15 = some (.ifCond .eq (12), 18, 27, 0, 0, 0, 0, []) := (congrFun pm_L_tight 15).trans rfl
theorem rl_L_tight_18 : (am_pg z_L_tight).2 18 = some (.iload_n 3, 19, 3, 0, 0, 0, 0, []) := (congrFun pm_L_tight 18).trans rfl
theorem rl_L_tight_19 : (am_pg z_L_tight).2 19 = some (.iconst (0), 20, 0, 0, 0, 0, 0, []) := (congrFun pm_L_tight 19).trans rfl
theorem rl_L_tight_20 : (am_pg z_L_tight).2 20 = some (.iconst (1), 21, 0, 0, 0, 0, 1, []) := (congrFun pm_L_tight 20).trans rfl
theorem rl_L_tight_21 : (am_pg z_L_tight).2 21 = some (.invokestatic 133, 24, 65, 3, 0, 16, 0, []) := (congrFun pm_L_tight 21).trans rfl
theorem rl_L_tight_24 : (am_pg z_L_tight).2 24 = some (.ifCond .ne (5), 27, 29, 0, 0, 0, 0, []) := (congrFun pm_L_tight 24).trans rfl
theorem rl_L_tight_27 : (am_pg z_L_tight).2 27 = some (.iconst (-1), 28, 0, 0, 0, 0, -1, []) := (congrFun pm_L_tight 27).trans rfl
theorem rl_L_tight_28 : (am_pg z_L_tight).2 28 = some (.ireturn, 29, 0, 0, 0, 0, 0, []) := (congrFun pm_L_tight 28).trans rfl
theorem rl_L_tight_29 : (am_pg z_L_tight).2 29 = some (.aload_n 0, 30, 0, 0, 0, 0, 0, []) := (congrFun pm_L_tight 29).trans rfl
theorem rl_L_tight_30 : (am_pg z_L_tight).2 30 = some (.getfield 69, 33, 8, 7, 0, 74, 0, []) := (congrFun pm_L_tight 30).trans rfl
theorem rl_L_tight_33 : (am_pg z_L_tight).2 33 = some (.aload_n 0, 34, 0, 0, 0, 0, 0, []) := (congrFun pm_L_tight 33).trans rfl
theorem rl_L_tight_34 : (am_pg z_L_tight).2 34 = some (.getfield 10, 37, 8, 0, 0, 67, 0, []) := (congrFun pm_L_tight 34).trans rfl
theorem rl_L_tight_37 : (am_pg z_L_tight).2 37 = some (.getfield 95, 40, 6, 0, 0, 24, 0, []) := (congrFun pm_L_tight 37).trans rfl
theorem rl_L_tight_40 : (am_pg z_L_tight).2 40 = some (.iload_n 1, 41, 1, 0, 0, 0, 0, []) := (congrFun pm_L_tight 40).trans rfl
theorem rl_L_tight_41 : (am_pg z_L_tight).2 41 = some (.invokevirtual 236, 44, 257, 2, 3, 91, 0, []) := (congrFun pm_L_tight 41).trans rfl
theorem rl_L_tight_44 : (am_pg z_L_tight).2 44 = some (.iconst (0), 45, 0, 0, 0, 0, 0, []) := (congrFun pm_L_tight 44).trans rfl
theorem rl_L_tight_45 : (am_pg z_L_tight).2 45 = some (.istore 4, 47, 4, 0, 0, 0, 0, []) := (congrFun pm_L_tight 45).trans rfl
theorem rl_L_tight_47 : (am_pg z_L_tight).2 47 = some (.bipush (-2), 49, 0, 0, 0, 0, -2, []) := (congrFun pm_L_tight 47).trans rfl
theorem rl_L_tight_49 : (am_pg z_L_tight).2 49 = some (.istore 5, 51, 5, 0, 0, 0, 0, []) := (congrFun pm_L_tight 49).trans rfl
theorem rl_L_tight_51 : (am_pg z_L_tight).2 51 = some (.iconst (0), 52, 0, 0, 0, 0, 0, []) := (congrFun pm_L_tight 51).trans rfl
theorem rl_L_tight_52 : (am_pg z_L_tight).2 52 = some (.istore 6, 54, 6, 0, 0, 0, 0, []) := (congrFun pm_L_tight 52).trans rfl
theorem rl_L_tight_54 : (am_pg z_L_tight).2 54 = some (.iload 6, 56, 6, 0, 0, 0, 0, []) := (congrFun pm_L_tight 54).trans rfl
theorem rl_L_tight_56 : (am_pg z_L_tight).2 56 = some (.sipush (1080), 59, 0, 0, 0, 0, 1080, []) := (congrFun pm_L_tight 56).trans rfl
theorem rl_L_tight_59 : (am_pg z_L_tight).2 59 = some (.if_icmp .ge (41), 62, 100, 0, 0, 0, 0, []) := (congrFun pm_L_tight 59).trans rfl
theorem rl_L_tight_62 : (am_pg z_L_tight).2 62 = some (.aload_n 0, 63, 0, 0, 0, 0, 0, []) := (congrFun pm_L_tight 62).trans rfl
theorem rl_L_tight_63 : (am_pg z_L_tight).2 63 = some (.getfield 69, 66, 8, 7, 0, 74, 0, []) := (congrFun pm_L_tight 63).trans rfl
theorem rl_L_tight_66 : (am_pg z_L_tight).2 66 = some (.iload 6, 68, 6, 0, 0, 0, 0, []) := (congrFun pm_L_tight 66).trans rfl
theorem rl_L_tight_68 : (am_pg z_L_tight).2 68 = some (.iload_n 2, 69, 2, 0, 0, 0, 0, []) := (congrFun pm_L_tight 68).trans rfl
theorem rl_L_tight_69 : (am_pg z_L_tight).2 69 = some (.isub, 70, 0, 0, 0, 0, 0, []) := (congrFun pm_L_tight 69).trans rfl
theorem rl_L_tight_70 : (am_pg z_L_tight).2 70 = some (.iconst (1), 71, 0, 0, 0, 0, 1, []) := (congrFun pm_L_tight 70).trans rfl
theorem rl_L_tight_71 : (am_pg z_L_tight).2 71 = some (.iadd, 72, 0, 0, 0, 0, 0, []) := (congrFun pm_L_tight 71).trans rfl
theorem rl_L_tight_72 : (am_pg z_L_tight).2 72 = some (.iload 6, 74, 6, 0, 0, 0, 0, []) := (congrFun pm_L_tight 72).trans rfl
theorem rl_L_tight_74 : (am_pg z_L_tight).2 74 = some (.invokevirtual 251, 77, 258, 2, 3, 107, 0, []) := (congrFun pm_L_tight 74).trans rfl
theorem rl_L_tight_77 : (am_pg z_L_tight).2 77 = some (.istore 7, 79, 7, 0, 0, 0, 0, []) := (congrFun pm_L_tight 77).trans rfl
theorem rl_L_tight_79 : (am_pg z_L_tight).2 79 = some (.iload 7, 81, 7, 0, 0, 0, 0, []) := (congrFun pm_L_tight 79).trans rfl
theorem rl_L_tight_81 : (am_pg z_L_tight).2 81 = some (.iload 4, 83, 4, 0, 0, 0, 0, []) := (congrFun pm_L_tight 81).trans rfl
theorem rl_L_tight_83 : (am_pg z_L_tight).2 83 = some (.if_icmp .le (11), 86, 94, 0, 0, 0, 0, []) := (congrFun pm_L_tight 83).trans rfl
theorem rl_L_tight_86 : (am_pg z_L_tight).2 86 = some (.iload 7, 88, 7, 0, 0, 0, 0, []) := (congrFun pm_L_tight 86).trans rfl
theorem rl_L_tight_88 : (am_pg z_L_tight).2 88 = some (.istore 4, 90, 4, 0, 0, 0, 0, []) := (congrFun pm_L_tight 88).trans rfl
theorem rl_L_tight_90 : (am_pg z_L_tight).2 90 = some (.iload 6, 92, 6, 0, 0, 0, 0, []) := (congrFun pm_L_tight 90).trans rfl
theorem rl_L_tight_92 : (am_pg z_L_tight).2 92 = some (.istore 5, 94, 5, 0, 0, 0, 0, []) := (congrFun pm_L_tight 92).trans rfl
theorem rl_L_tight_94 : (am_pg z_L_tight).2 94 = some (.iinc 6 (1), 97, 6, 0, 0, 0, 1, []) := (congrFun pm_L_tight 94).trans rfl
theorem rl_L_tight_97 : (am_pg z_L_tight).2 97 = some (.goto (-43), 100, 54, 0, 0, 0, 0, []) := (congrFun pm_L_tight 97).trans rfl
theorem rl_L_tight_100 : (am_pg z_L_tight).2 100 = some (.iload_n 3, 101, 3, 0, 0, 0, 0, []) := (congrFun pm_L_tight 100).trans rfl
theorem rl_L_tight_101 : (am_pg z_L_tight).2 101 = some (.ifCond .ne (8), 104, 109, 0, 0, 0, 0, []) := (congrFun pm_L_tight 101).trans rfl
theorem rl_L_tight_104 : (am_pg z_L_tight).2 104 = some (.iload 4, 106, 4, 0, 0, 0, 0, []) := (congrFun pm_L_tight 104).trans rfl
theorem rl_L_tight_106 : (am_pg z_L_tight).2 106 = some (.goto (5), 109, 111, 0, 0, 0, 0, []) := (congrFun pm_L_tight 106).trans rfl
theorem rl_L_tight_109 : (am_pg z_L_tight).2 109 = some (.iload 5, 111, 5, 0, 0, 0, 0, []) := (congrFun pm_L_tight 109).trans rfl
theorem rl_L_tight_111 : (am_pg z_L_tight).2 111 = some (.ireturn, 112, 0, 0, 0, 0, 0, []) := (congrFun pm_L_tight 111).trans rfl
theorem rl_L_rank_0 : (am_pg z_L_rank).2 0 = some (.iload_n 1, 1, 1, 0, 0, 0, 0, []) := (congrFun pm_L_rank 0).trans rfl
theorem rl_L_rank_1 : (am_pg z_L_rank).2 1 = some (.invokestatic 190, 4, 68, 1, 0, 70, 0, []) := (congrFun pm_L_rank 1).trans rfl
theorem rl_L_rank_4 : (am_pg z_L_rank).2 4 = some (.ifCond .eq (12), 7, 16, 0, 0, 0, 0, []) := (congrFun pm_L_rank 4).trans rfl
theorem rl_L_rank_7 : (am_pg z_L_rank).2 7 = some (.iload_n 2, 8, 2, 0, 0, 0, 0, []) := (congrFun pm_L_rank 7).trans rfl
theorem rl_L_rank_8 : (am_pg z_L_rank).2 8 = some (.iconst (0), 9, 0, 0, 0, 0, 0, []) := (congrFun pm_L_rank 8).trans rfl
theorem rl_L_rank_9 : (am_pg z_L_rank).2 9 = some (.iconst (5), 10, 0, 0, 0, 0, 5, []) := (congrFun pm_L_rank 9).trans rfl
theorem rl_L_rank_10 : (am_pg z_L_rank).2 10 = some (.invokestatic 133, 13, 65, 3, 0, 16, 0, []) := (congrFun pm_L_rank 10).trans rfl
theorem rl_L_rank_13 : (am_pg z_L_rank).2 13 = some (.ifCond .ne (5), 16, 18, 0, 0, 0, 0, []) := (congrFun pm_L_rank 13).trans rfl
theorem rl_L_rank_16 : (am_pg z_L_rank).2 16 = some (.iconst (-1), 17, 0, 0, 0, 0, -1, []) := (congrFun pm_L_rank 16).trans rfl
theorem rl_L_rank_17 : (am_pg z_L_rank).2 17 = some (.ireturn, 18, 0, 0, 0, 0, 0, []) := (congrFun pm_L_rank 17).trans rfl
theorem rl_L_rank_18 : (am_pg z_L_rank).2 18 = some (.aload_n 0, 19, 0, 0, 0, 0, 0, []) := (congrFun pm_L_rank 18).trans rfl
theorem rl_L_rank_19 : (am_pg z_L_rank).2 19 = some (.getfield 56, 22, 8, 6, 0, 73, 0, []) := (congrFun pm_L_rank 19).trans rfl
theorem rl_L_rank_22 : (am_pg z_L_rank).2 22 = some (.aload_n 0, 23, 0, 0, 0, 0, 0, []) := (congrFun pm_L_rank 22).trans rfl
theorem rl_L_rank_23 : (am_pg z_L_rank).2 23 = some (.getfield 10, 26, 8, 0, 0, 67, 0, []) := (congrFun pm_L_rank 23).trans rfl
theorem rl_L_rank_26 : (am_pg z_L_rank).2 26 = some (.getfield 95, 29, 6, 0, 0, 24, 0, []) := (congrFun pm_L_rank 26).trans rfl
theorem rl_L_rank_29 : (am_pg z_L_rank).2 29 = some (.invokevirtual 245, 32, 210, 1, 0, 100, 0, []) := (congrFun pm_L_rank 29).trans rfl
theorem rl_L_rank_32 : (am_pg z_L_rank).2 32 = some (.iconst (0), 33, 0, 0, 0, 0, 0, []) := (congrFun pm_L_rank 32).trans rfl
theorem rl_L_rank_33 : (am_pg z_L_rank).2 33 = some (.istore_n 3, 34, 3, 0, 0, 0, 0, []) := (congrFun pm_L_rank 33).trans rfl
theorem rl_L_rank_34 : (am_pg z_L_rank).2 34 = some (.iload_n 3, 35, 3, 0, 0, 0, 0, []) := (congrFun pm_L_rank 34).trans rfl
theorem rl_L_rank_35 : (am_pg z_L_rank).2 35 = some (.bipush (6), 37, 0, 0, 0, 0, 6, []) := (congrFun pm_L_rank 35).trans rfl
theorem rl_L_rank_37 : (am_pg z_L_rank).2 37 = some (.if_icmp .ge (24), 40, 61, 0, 0, 0, 0, []) := (congrFun pm_L_rank 37).trans rfl
theorem rl_L_rank_40 : (am_pg z_L_rank).2 40 = some (.aload_n 0, 41, 0, 0, 0, 0, 0, []) := (congrFun pm_L_rank 40).trans rfl
theorem rl_L_rank_41 : (am_pg z_L_rank).2 41 = some (.getfield 56, 44, 8, 6, 0, 73, 0, []) := (congrFun pm_L_rank 41).trans rfl
theorem rl_L_rank_44 : (am_pg z_L_rank).2 44 = some (.iload_n 3, 45, 3, 0, 0, 0, 0, []) := (congrFun pm_L_rank 44).trans rfl
theorem rl_L_rank_45 : (am_pg z_L_rank).2 45 = some (.iload_n 1, 46, 1, 0, 0, 0, 0, []) := (congrFun pm_L_rank 45).trans rfl
theorem rl_L_rank_46 : (am_pg z_L_rank).2 46 = some (.invokevirtual 254, 49, 218, 2, 0, 109, 0, []) := (congrFun pm_L_rank 46).trans rfl
theorem rl_L_rank_49 : (am_pg z_L_rank).2 49 = some (.iload_n 2, 50, 2, 0, 0, 0, 0, []) := (congrFun pm_L_rank 49).trans rfl
theorem rl_L_rank_50 : (am_pg z_L_rank).2 50 = some (.if_icmp .ne (5), 53, 55, 0, 0, 0, 0, []) := (congrFun pm_L_rank 50).trans rfl
theorem rl_L_rank_53 : (am_pg z_L_rank).2 53 = some (.iload_n 3, 54, 3, 0, 0, 0, 0, []) := (congrFun pm_L_rank 53).trans rfl
theorem rl_L_rank_54 : (am_pg z_L_rank).2 54 = some (.ireturn, 55, 0, 0, 0, 0, 0, []) := (congrFun pm_L_rank 54).trans rfl
theorem rl_L_rank_55 : (am_pg z_L_rank).2 55 = some (.iinc 3 (1), 58, 3, 0, 0, 0, 1, []) := (congrFun pm_L_rank 55).trans rfl
theorem rl_L_rank_58 : (am_pg z_L_rank).2 58 = some (.goto (-24), 61, 34, 0, 0, 0, 0, []) := (congrFun pm_L_rank 58).trans rfl
theorem rl_L_rank_61 : (am_pg z_L_rank).2 61 = some (.iconst (-1), 62, 0, 0, 0, 0, -1, []) := (congrFun pm_L_rank 61).trans rfl
theorem rl_L_rank_62 : (am_pg z_L_rank).2 62 = some (.ireturn, 63, 0, 0, 0, 0, 0, []) := (congrFun pm_L_rank 62).trans rfl
theorem rl_L_slide_0 : (am_pg z_L_slide).2 0 = some (.iload_n 1, 1, 1, 0, 0, 0, 0, []) := (congrFun pm_L_slide 0).trans rfl
theorem rl_L_slide_1 : (am_pg z_L_slide).2 1 = some (.iload_n 2, 2, 2, 0, 0, 0, 0, []) := (congrFun pm_L_slide 1).trans rfl
theorem rl_L_slide_2 : (am_pg z_L_slide).2 2 = some (.invokestatic 105, 5, 67, 2, 0, 33, 0, []) := (congrFun pm_L_slide 2).trans rfl
theorem rl_L_slide_5 : (am_pg z_L_slide).2 5 = some (.ifCond .eq (17), 8, 22, 0, 0, 0, 0, []) := (congrFun pm_L_slide 5).trans rfl
theorem rl_L_slide_8 : (am_pg z_L_slide).2 8 = some (.iload_n 3, 9, 3, 0, 0, 0, 0, []) := (congrFun pm_L_slide 8).trans rfl
theorem rl_L_slide_9 : (am_pg z_L_slide).2 9 = some (.iload_n 1, 10, 1, 0, 0, 0, 0, []) := (congrFun pm_L_slide 9).trans rfl
theorem rl_L_slide_10 : (am_pg z_L_slide).2 10 = some (.ineg, 11, 0, 0, 0, 0, 0, []) := (congrFun pm_L_slide 10).trans rfl
theorem rl_L_slide_11 : (am_pg z_L_slide).2 11 = some (.sipush (1079), 14, 0, 0, 0, 0, 1079, []) := (congrFun pm_L_slide 11).trans rfl
theorem rl_L_slide_14 : (am_pg z_L_slide).2 14 = some (.iload_n 2, 15, 2, 0, 0, 0, 0, []) := (congrFun pm_L_slide 14).trans rfl
theorem rl_L_slide_15 : (am_pg z_L_slide).2 15 = some (.isub, 16, 0, 0, 0, 0, 0, []) := (congrFun pm_L_slide 15).trans rfl
theorem rl_L_slide_16 : (am_pg z_L_slide).2 16 = some (.invokestatic 133, 19, 65, 3, 0, 16, 0, []) := (congrFun pm_L_slide 16).trans rfl
theorem rl_L_slide_19 : (am_pg z_L_slide).2 19 = some (.ifCond .ne (5), 22, 24, 0, 0, 0, 0, []) := (congrFun pm_L_slide 19).trans rfl
theorem rl_L_slide_22 : (am_pg z_L_slide).2 22 = some (.iconst (-1), 23, 0, 0, 0, 0, -1, []) := (congrFun pm_L_slide 22).trans rfl
theorem rl_L_slide_23 : (am_pg z_L_slide).2 23 = some (.ireturn, 24, 0, 0, 0, 0, 0, []) := (congrFun pm_L_slide 23).trans rfl
theorem rl_L_slide_24 : (am_pg z_L_slide).2 24 = some (.aload_n 0, 25, 0, 0, 0, 0, 0, []) := (congrFun pm_L_slide 24).trans rfl
theorem rl_L_slide_25 : (am_pg z_L_slide).2 25 = some (.getfield 76, 28, 8, 8, 0, 75, 0, []) := (congrFun pm_L_slide 25).trans rfl
theorem rl_L_slide_28 : (am_pg z_L_slide).2 28 = some (.aload_n 0, 29, 0, 0, 0, 0, 0, []) := (congrFun pm_L_slide 28).trans rfl
theorem rl_L_slide_29 : (am_pg z_L_slide).2 29 = some (.getfield 10, 32, 8, 0, 0, 67, 0, []) := (congrFun pm_L_slide 29).trans rfl
theorem rl_L_slide_32 : (am_pg z_L_slide).2 32 = some (.getfield 95, 35, 6, 0, 0, 24, 0, []) := (congrFun pm_L_slide 32).trans rfl
theorem rl_L_slide_35 : (am_pg z_L_slide).2 35 = some (.invokevirtual 257, 38, 234, 1, 1, 112, 0, []) := (congrFun pm_L_slide 35).trans rfl
theorem rl_L_slide_38 : (am_pg z_L_slide).2 38 = some (.aload_n 0, 39, 0, 0, 0, 0, 0, []) := (congrFun pm_L_slide 38).trans rfl
theorem rl_L_slide_39 : (am_pg z_L_slide).2 39 = some (.getfield 76, 42, 8, 8, 0, 75, 0, []) := (congrFun pm_L_slide 39).trans rfl
theorem rl_L_slide_42 : (am_pg z_L_slide).2 42 = some (.iconst (-1), 43, 0, 0, 0, 0, -1, []) := (congrFun pm_L_slide 42).trans rfl
theorem rl_L_slide_43 : (am_pg z_L_slide).2 43 = some (.iload_n 1, 44, 1, 0, 0, 0, 0, []) := (congrFun pm_L_slide 43).trans rfl
theorem rl_L_slide_44 : (am_pg z_L_slide).2 44 = some (.iload_n 2, 45, 2, 0, 0, 0, 0, []) := (congrFun pm_L_slide 44).trans rfl
theorem rl_L_slide_45 : (am_pg z_L_slide).2 45 = some (.invokevirtual 109, 48, 236, 3, 1, 35, 0, []) := (congrFun pm_L_slide 45).trans rfl
theorem rl_L_slide_48 : (am_pg z_L_slide).2 48 = some (.pop, 49, 0, 0, 0, 0, 0, []) := (congrFun pm_L_slide 48).trans rfl
theorem rl_L_slide_49 : (am_pg z_L_slide).2 49 = some (.aload_n 0, 50, 0, 0, 0, 0, 0, []) := (congrFun pm_L_slide 49).trans rfl
theorem rl_L_slide_50 : (am_pg z_L_slide).2 50 = some (.getfield 10, 53, 8, 0, 0, 67, 0, []) := (congrFun pm_L_slide 50).trans rfl
theorem rl_L_slide_53 : (am_pg z_L_slide).2 53 = some (.getfield 95, 56, 6, 0, 0, 24, 0, []) := (congrFun pm_L_slide 53).trans rfl
theorem rl_L_slide_56 : (am_pg z_L_slide).2 56 = some (.getfield 260, 59, 1, 0, 0, 3, 0, []) := (congrFun pm_L_slide 56).trans rfl
theorem rl_L_slide_59 : (am_pg z_L_slide).2 59 = some (.iload_n 1, 60, 1, 0, 0, 0, 0, []) := (congrFun pm_L_slide 59).trans rfl
theorem rl_L_slide_60 : (am_pg z_L_slide).2 60 = some (.aload_n 0, 61, 0, 0, 0, 0, 0, []) := (congrFun pm_L_slide 60).trans rfl
theorem rl_L_slide_61 : (am_pg z_L_slide).2 61 = some (.getfield 76, 64, 8, 8, 0, 75, 0, []) := (congrFun pm_L_slide 61).trans rfl
theorem rl_L_slide_64 : (am_pg z_L_slide).2 64 = some (.getfield 260, 67, 1, 0, 0, 3, 0, []) := (congrFun pm_L_slide 64).trans rfl
theorem rl_L_slide_67 : (am_pg z_L_slide).2 67 = some (.iload_n 1, 68, 1, 0, 0, 0, 0, []) := (congrFun pm_L_slide 67).trans rfl
theorem rl_L_slide_68 : (am_pg z_L_slide).2 68 = some (.iload_n 3, 69, 3, 0, 0, 0, 0, []) := (congrFun pm_L_slide 68).trans rfl
theorem rl_L_slide_69 : (am_pg z_L_slide).2 69 = some (.iadd, 70, 0, 0, 0, 0, 0, []) := (congrFun pm_L_slide 69).trans rfl
theorem rl_L_slide_70 : (am_pg z_L_slide).2 70 = some (.iload_n 2, 71, 2, 0, 0, 0, 0, []) := (congrFun pm_L_slide 70).trans rfl
theorem rl_L_slide_71 : (am_pg z_L_slide).2 71 = some (.iload_n 1, 72, 1, 0, 0, 0, 0, []) := (congrFun pm_L_slide 71).trans rfl
theorem rl_L_slide_72 : (am_pg z_L_slide).2 72 = some (.isub, 73, 0, 0, 0, 0, 0, []) := (congrFun pm_L_slide 72).trans rfl
theorem rl_L_slide_73 : (am_pg z_L_slide).2 73 = some (.iconst (1), 74, 0, 0, 0, 0, 1, []) := (congrFun pm_L_slide 73).trans rfl
theorem rl_L_slide_74 : (am_pg z_L_slide).2 74 = some (.iadd, 75, 0, 0, 0, 0, 0, []) := (congrFun pm_L_slide 74).trans rfl
theorem rl_L_slide_75 : (am_pg z_L_slide).2 75 = some (.invokestatic 263, 78, 0, 5, 1, 1, 0, []) := (congrFun pm_L_slide 75).trans rfl
theorem rl_L_slide_78 : (am_pg z_L_slide).2 78 = some (.aload_n 0, 79, 0, 0, 0, 0, 0, []) := (congrFun pm_L_slide 78).trans rfl
theorem rl_L_slide_79 : (am_pg z_L_slide).2 79 = some (.getfield 10, 82, 8, 0, 0, 67, 0, []) := (congrFun pm_L_slide 79).trans rfl
theorem rl_L_slide_82 : (am_pg z_L_slide).2 82 = some (.getfield 95, 85, 6, 0, 0, 24, 0, []) := (congrFun pm_L_slide 82).trans rfl
theorem rl_L_slide_85 : (am_pg z_L_slide).2 85 = some (.aload_n 0, 86, 0, 0, 0, 0, 0, []) := (congrFun pm_L_slide 85).trans rfl
theorem rl_L_slide_86 : (am_pg z_L_slide).2 86 = some (.getfield 76, 89, 8, 8, 0, 75, 0, []) := (congrFun pm_L_slide 86).trans rfl
theorem rl_L_slide_89 : (am_pg z_L_slide).2 89 = some (.invokevirtual 269, 92, 235, 1, 1, 113, 0, []) := (congrFun pm_L_slide 89).trans rfl
theorem rl_L_slide_92 : (am_pg z_L_slide).2 92 = some (.ireturn, 93, 0, 0, 0, 0, 0, []) := (congrFun pm_L_slide 92).trans rfl
theorem rl_L_trade_0 : (am_pg z_L_trade).2 0 = some (.iload_n 1, 1, 1, 0, 0, 0, 0, []) := (congrFun pm_L_trade 0).trans rfl
theorem rl_L_trade_1 : (am_pg z_L_trade).2 1 = some (.iload_n 2, 2, 2, 0, 0, 0, 0, []) := (congrFun pm_L_trade 1).trans rfl
theorem rl_L_trade_2 : (am_pg z_L_trade).2 2 = some (.invokestatic 205, 5, 71, 2, 0, 75, 0, []) := (congrFun pm_L_trade 2).trans rfl
theorem rl_L_trade_5 : (am_pg z_L_trade).2 5 = some (.ifCond .eq (12), 8, 17, 0, 0, 0, 0, []) := (congrFun pm_L_trade 5).trans rfl
theorem rl_L_trade_8 : (am_pg z_L_trade).2 8 = some (.iload_n 3, 9, 3, 0, 0, 0, 0, []) := (congrFun pm_L_trade 8).trans rfl
theorem rl_L_trade_9 : (am_pg z_L_trade).2 9 = some (.iload 4, 11, 4, 0, 0, 0, 0, []) := (congrFun pm_L_trade 9).trans rfl
theorem rl_L_trade_11 : (am_pg z_L_trade).2 11 = some (.invokestatic 105, 14, 67, 2, 0, 33, 0, []) := (congrFun pm_L_trade 11).trans rfl
theorem rl_L_trade_14 : (am_pg z_L_trade).2 14 = some (.ifCond .ne (5), 17, 19, 0, 0, 0, 0, []) := (congrFun pm_L_trade 14).trans rfl
theorem rl_L_trade_17 : (am_pg z_L_trade).2 17 = some (.iconst (-1), 18, 0, 0, 0, 0, -1, []) := (congrFun pm_L_trade 17).trans rfl
theorem rl_L_trade_18 : (am_pg z_L_trade).2 18 = some (.ireturn, 19, 0, 0, 0, 0, 0, []) := (congrFun pm_L_trade 18).trans rfl
theorem rl_L_trade_19 : (am_pg z_L_trade).2 19 = some (.iconst (0), 20, 0, 0, 0, 0, 0, []) := (congrFun pm_L_trade 19).trans rfl
theorem rl_L_trade_20 : (am_pg z_L_trade).2 20 = some (.istore 5, 22, 5, 0, 0, 0, 0, []) := (congrFun pm_L_trade 20).trans rfl
theorem rl_L_trade_22 : (am_pg z_L_trade).2 22 = some (.iload_n 3, 23, 3, 0, 0, 0, 0, []) := (congrFun pm_L_trade 22).trans rfl
theorem rl_L_trade_23 : (am_pg z_L_trade).2 23 = some (.istore 6, 25, 6, 0, 0, 0, 0, []) := (congrFun pm_L_trade 23).trans rfl
theorem rl_L_trade_25 : (am_pg z_L_trade).2 25 = some (.iload 6, 27, 6, 0, 0, 0, 0, []) := (congrFun pm_L_trade 25).trans rfl
theorem rl_L_trade_27 : (am_pg z_L_trade).2 27 = some (.iload 4, 29, 4, 0, 0, 0, 0, []) := (congrFun pm_L_trade 27).trans rfl
theorem rl_L_trade_29 : (am_pg z_L_trade).2 29 = some (.if_icmp .gt (62), 32, 91, 0, 0, 0, 0, []) := (congrFun pm_L_trade 29).trans rfl
theorem rl_L_trade_32 : (am_pg z_L_trade).2 32 = some (.aload_n 0, 33, 0, 0, 0, 0, 0, []) := (congrFun pm_L_trade 32).trans rfl
theorem rl_L_trade_33 : (am_pg z_L_trade).2 33 = some (.getfield 10, 36, 8, 0, 0, 67, 0, []) := (congrFun pm_L_trade 33).trans rfl
theorem rl_L_trade_36 : (am_pg z_L_trade).2 36 = some (.getfield 95, 39, 6, 0, 0, 24, 0, []) := (congrFun pm_L_trade 36).trans rfl
theorem rl_L_trade_39 : (am_pg z_L_trade).2 39 = some (.iload 6, 41, 6, 0, 0, 0, 0, []) := (congrFun pm_L_trade 39).trans rfl
theorem rl_L_trade_41 : (am_pg z_L_trade).2 41 = some (.invokevirtual 150, 44, 237, 1, 1, 47, 0, []) := (congrFun pm_L_trade 41).trans rfl
theorem rl_L_trade_44 : (am_pg z_L_trade).2 44 = some (.istore 7, 46, 7, 0, 0, 0, 0, []) := (congrFun pm_L_trade 44).trans rfl
theorem rl_L_trade_46 : (am_pg z_L_trade).2 46 = some (.iload 7, 48, 7, 0, 0, 0, 0, []) := (congrFun pm_L_trade 46).trans rfl
theorem rl_L_trade_48 : (am_pg z_L_trade).2 48 = some (.iload_n 1, 49, 1, 0, 0, 0, 0, []) := (congrFun pm_L_trade 48).trans rfl
theorem rl_L_trade_49 : (am_pg z_L_trade).2 49 = some (.if_icmp .eq (9), 52, 58, 0, 0, 0, 0, []) := (congrFun pm_L_trade 49).trans rfl
theorem rl_L_trade_52 : (am_pg z_L_trade).2 52 = some (.iload 7, 54, 7, 0, 0, 0, 0, []) := (congrFun pm_L_trade 52).trans rfl
theorem rl_L_trade_54 : (am_pg z_L_trade).2 54 = some (.iload_n 2, 55, 2, 0, 0, 0, 0, []) := (congrFun pm_L_trade 54).trans rfl
theorem rl_L_trade_55 : (am_pg z_L_trade).2 55 = some (.if_icmp .ne (30), 58, 85, 0, 0, 0, 0, []) := (congrFun pm_L_trade 55).trans rfl
theorem rl_L_trade_58 : (am_pg z_L_trade).2 58 = some (.aload_n 0, 59, 0, 0, 0, 0, 0, []) := (congrFun pm_L_trade 58).trans rfl
theorem rl_L_trade_59 : (am_pg z_L_trade).2 59 = some (.getfield 10, 62, 8, 0, 0, 67, 0, []) := (congrFun pm_L_trade 59).trans rfl
theorem rl_L_trade_62 : (am_pg z_L_trade).2 62 = some (.getfield 95, 65, 6, 0, 0, 24, 0, []) := (congrFun pm_L_trade 62).trans rfl
theorem rl_L_trade_65 : (am_pg z_L_trade).2 65 = some (.getfield 260, 68, 1, 0, 0, 3, 0, []) := (congrFun pm_L_trade 65).trans rfl
theorem rl_L_trade_68 : (am_pg z_L_trade).2 68 = some (.iload 6, 70, 6, 0, 0, 0, 0, []) := (congrFun pm_L_trade 68).trans rfl
theorem rl_L_trade_70 : (am_pg z_L_trade).2 70 = some (.iload 7, 72, 7, 0, 0, 0, 0, []) := (congrFun pm_L_trade 70).trans rfl
theorem rl_L_trade_72 : (am_pg z_L_trade).2 72 = some (.iload_n 1, 73, 1, 0, 0, 0, 0, []) := (congrFun pm_L_trade 72).trans rfl
theorem rl_L_trade_73 : (am_pg z_L_trade).2 73 = some (.if_icmp .ne (7), 76, 80, 0, 0, 0, 0, []) := (congrFun pm_L_trade 73).trans rfl
theorem rl_L_trade_76 : (am_pg z_L_trade).2 76 = some (.iload_n 2, 77, 2, 0, 0, 0, 0, []) := (congrFun pm_L_trade 76).trans rfl
theorem rl_L_trade_77 : (am_pg z_L_trade).2 77 = some (.goto (4), 80, 81, 0, 0, 0, 0, []) := (congrFun pm_L_trade 77).trans rfl
theorem rl_L_trade_80 : (am_pg z_L_trade).2 80 = some (.iload_n 1, 81, 1, 0, 0, 0, 0, []) := (congrFun pm_L_trade 80).trans rfl
theorem rl_L_trade_81 : (am_pg z_L_trade).2 81 = some (.iastore, 82, 0, 0, 0, 0, 0, []) := (congrFun pm_L_trade 81).trans rfl
theorem rl_L_trade_82 : (am_pg z_L_trade).2 82 = some (.iinc 5 (1), 85, 5, 0, 0, 0, 1, []) := (congrFun pm_L_trade 82).trans rfl
theorem rl_L_trade_85 : (am_pg z_L_trade).2 85 = some (.iinc 6 (1), 88, 6, 0, 0, 0, 1, []) := (congrFun pm_L_trade 85).trans rfl
theorem rl_L_trade_88 : (am_pg z_L_trade).2 88 = some (.goto (-63), 91, 25, 0, 0, 0, 0, []) := (congrFun pm_L_trade 88).trans rfl
theorem rl_L_trade_91 : (am_pg z_L_trade).2 91 = some (.iload 5, 93, 5, 0, 0, 0, 0, []) := (congrFun pm_L_trade 91).trans rfl
theorem rl_L_trade_93 : (am_pg z_L_trade).2 93 = some (.ireturn, 94, 0, 0, 0, 0, 0, []) := (congrFun pm_L_trade 93).trans rfl
theorem rl_L_erase_0 : (am_pg z_L_erase).2 0 = some (.iload_n 1, 1, 1, 0, 0, 0, 0, []) := (congrFun pm_L_erase 0).trans rfl
theorem rl_L_erase_1 : (am_pg z_L_erase).2 1 = some (.invokestatic 113, 4, 69, 1, 0, 37, 0, []) := (congrFun pm_L_erase 1).trans rfl
theorem rl_L_erase_4 : (am_pg z_L_erase).2 4 = some (.ifCond .eq (14), 7, 18, 0, 0, 0, 0, []) := (congrFun pm_L_erase 4).trans rfl
theorem rl_L_erase_7 : (am_pg z_L_erase).2 7 = some (.iload_n 2, 8, 2, 0, 0, 0, 0, []) := (congrFun pm_L_erase 7).trans rfl
theorem rl_L_erase_8 : (am_pg z_L_erase).2 8 = some (.iconst (1), 9, 0, 0, 0, 0, 1, []) := (congrFun pm_L_erase 8).trans rfl
theorem rl_L_erase_9 : (am_pg z_L_erase).2 9 = some (.sipush (360), 12, 0, 0, 0, 0, 360, []) := (congrFun pm_L_erase 9).trans rfl
theorem rl_L_erase_12 : (am_pg z_L_erase).2 12 = some (.invokestatic 133, 15, 65, 3, 0, 16, 0, []) := (congrFun pm_L_erase 12).trans rfl
theorem rl_L_erase_15 : (am_pg z_L_erase).2 15 = some (.ifCond .ne (5), 18, 20, 0, 0, 0, 0, []) := (congrFun pm_L_erase 15).trans rfl
theorem rl_L_erase_18 : (am_pg z_L_erase).2 18 = some (.iconst (-1), 19, 0, 0, 0, 0, -1, []) := (congrFun pm_L_erase 18).trans rfl
theorem rl_L_erase_19 : (am_pg z_L_erase).2 19 = some (.ireturn, 20, 0, 0, 0, 0, 0, []) := (congrFun pm_L_erase 19).trans rfl
theorem rl_L_erase_20 : (am_pg z_L_erase).2 20 = some (.iconst (0), 21, 0, 0, 0, 0, 0, []) := (congrFun pm_L_erase 20).trans rfl
theorem rl_L_erase_21 : (am_pg z_L_erase).2 21 = some (.istore_n 3, 22, 3, 0, 0, 0, 0, []) := (congrFun pm_L_erase 21).trans rfl
theorem rl_L_erase_22 : (am_pg z_L_erase).2 22 = some (.iconst (0), 23, 0, 0, 0, 0, 0, []) := (congrFun pm_L_erase 22).trans rfl
theorem rl_L_erase_23 : (am_pg z_L_erase).2 23 = some (.istore 4, 25, 4, 0, 0, 0, 0, []) := (congrFun pm_L_erase 23).trans rfl
theorem rl_L_erase_25 : (am_pg z_L_erase).2 25 = some (.iload 4, 27, 4, 0, 0, 0, 0, []) := (congrFun pm_L_erase 25).trans rfl
theorem rl_L_erase_27 : (am_pg z_L_erase).2 27 = some (.sipush (1080), 30, 0, 0, 0, 0, 1080, []) := (congrFun pm_L_erase 27).trans rfl
theorem rl_L_erase_30 : (am_pg z_L_erase).2 30 = some (.if_icmp .ge (84), 33, 114, 0, 0, 0, 0, []) := (congrFun pm_L_erase 30).trans rfl
theorem rl_L_erase_33 : (am_pg z_L_erase).2 33 = some (.aload_n 0, 34, 0, 0, 0, 0, 0, []) := (congrFun pm_L_erase 33).trans rfl
theorem rl_L_erase_34 : (am_pg z_L_erase).2 34 = some (.getfield 10, 37, 8, 0, 0, 67, 0, []) := (congrFun pm_L_erase 34).trans rfl
theorem rl_L_erase_37 : (am_pg z_L_erase).2 37 = some (.getfield 95, 40, 6, 0, 0, 24, 0, []) := (congrFun pm_L_erase 37).trans rfl
theorem rl_L_erase_40 : (am_pg z_L_erase).2 40 = some (.iload 4, 42, 4, 0, 0, 0, 0, []) := (congrFun pm_L_erase 40).trans rfl
theorem rl_L_erase_42 : (am_pg z_L_erase).2 42 = some (.invokevirtual 150, 45, 237, 1, 1, 47, 0, []) := (congrFun pm_L_erase 42).trans rfl
theorem rl_L_erase_45 : (am_pg z_L_erase).2 45 = some (.iload_n 1, 46, 1, 0, 0, 0, 0, []) := (congrFun pm_L_erase 45).trans rfl
theorem rl_L_erase_46 : (am_pg z_L_erase).2 46 = some (.if_icmp .ne (62), 49, 108, 0, 0, 0, 0, []) := (congrFun pm_L_erase 46).trans rfl
theorem rl_L_erase_49 : (am_pg z_L_erase).2 49 = some (.aload_n 0, 50, 0, 0, 0, 0, 0, []) := (congrFun pm_L_erase 49).trans rfl
theorem rl_L_erase_50 : (am_pg z_L_erase).2 50 = some (.getfield 10, 53, 8, 0, 0, 67, 0, []) := (congrFun pm_L_erase 50).trans rfl
theorem rl_L_erase_53 : (am_pg z_L_erase).2 53 = some (.getfield 95, 56, 6, 0, 0, 24, 0, []) := (congrFun pm_L_erase 53).trans rfl
theorem rl_L_erase_56 : (am_pg z_L_erase).2 56 = some (.iload 4, 58, 4, 0, 0, 0, 0, []) := (congrFun pm_L_erase 56).trans rfl
theorem rl_L_erase_58 : (am_pg z_L_erase).2 58 = some (.invokevirtual 199, 61, 238, 1, 1, 73, 0, []) := (congrFun pm_L_erase 58).trans rfl
theorem rl_L_erase_61 : (am_pg z_L_erase).2 61 = some (.ifCond .eq (47), 64, 108, 0, 0, 0, 0, []) := (congrFun pm_L_erase 61).trans rfl
theorem rl_L_erase_64 : (am_pg z_L_erase).2 64 = some (.aload_n 0, 65, 0, 0, 0, 0, 0, []) := (congrFun pm_L_erase 64).trans rfl
theorem rl_L_erase_65 : (am_pg z_L_erase).2 65 = some (.getfield 10, 68, 8, 0, 0, 67, 0, []) := (congrFun pm_L_erase 65).trans rfl
theorem rl_L_erase_68 : (am_pg z_L_erase).2 68 = some (.getfield 95, 71, 6, 0, 0, 24, 0, []) := (congrFun pm_L_erase 68).trans rfl
theorem rl_L_erase_71 : (am_pg z_L_erase).2 71 = some (.iload 4, 73, 4, 0, 0, 0, 0, []) := (congrFun pm_L_erase 71).trans rfl
theorem rl_L_erase_73 : (am_pg z_L_erase).2 73 = some (.invokevirtual 242, 76, 239, 1, 1, 96, 0, []) := (congrFun pm_L_erase 73).trans rfl
theorem rl_L_erase_76 : (am_pg z_L_erase).2 76 = some (.istore 5, 78, 5, 0, 0, 0, 0, []) := (congrFun pm_L_erase 76).trans rfl
theorem rl_L_erase_78 : (am_pg z_L_erase).2 78 = some (.iload 5, 80, 5, 0, 0, 0, 0, []) := (congrFun pm_L_erase 78).trans rfl
theorem rl_L_erase_80 : (am_pg z_L_erase).2 80 = some (.iload 4, 82, 4, 0, 0, 0, 0, []) := (congrFun pm_L_erase 80).trans rfl
theorem rl_L_erase_82 : (am_pg z_L_erase).2 82 = some (.isub, 83, 0, 0, 0, 0, 0, []) := (congrFun pm_L_erase 82).trans rfl
theorem rl_L_erase_83 : (am_pg z_L_erase).2 83 = some (.iconst (1), 84, 0, 0, 0, 0, 1, []) := (congrFun pm_L_erase 83).trans rfl
theorem rl_L_erase_84 : (am_pg z_L_erase).2 84 = some (.iadd, 85, 0, 0, 0, 0, 0, []) := (congrFun pm_L_erase 84).trans rfl
theorem rl_L_erase_85 : (am_pg z_L_erase).2 85 = some (.iload_n 2, 86, 2, 0, 0, 0, 0, []) := (congrFun pm_L_erase 85).trans rfl
theorem rl_L_erase_86 : (am_pg z_L_erase).2 86 = some (.if_icmp .gt (22), 89, 108, 0, 0, 0, 0, []) := (congrFun pm_L_erase 86).trans rfl
theorem rl_L_erase_89 : (am_pg z_L_erase).2 89 = some (.aload_n 0, 90, 0, 0, 0, 0, 0, []) := (congrFun pm_L_erase 89).trans rfl
theorem rl_L_erase_90 : (am_pg z_L_erase).2 90 = some (.getfield 10, 93, 8, 0, 0, 67, 0, []) := (congrFun pm_L_erase 90).trans rfl
theorem rl_L_erase_93 : (am_pg z_L_erase).2 93 = some (.getfield 95, 96, 6, 0, 0, 24, 0, []) := (congrFun pm_L_erase 93).trans rfl
theorem rl_L_erase_96 : (am_pg z_L_erase).2 96 = some (.iconst (-1), 97, 0, 0, 0, 0, -1, []) := (congrFun pm_L_erase 96).trans rfl
theorem rl_L_erase_97 : (am_pg z_L_erase).2 97 = some (.iload 4, 99, 4, 0, 0, 0, 0, []) := (congrFun pm_L_erase 97).trans rfl
theorem rl_L_erase_99 : (am_pg z_L_erase).2 99 = some (.iload 5, 101, 5, 0, 0, 0, 0, []) := (congrFun pm_L_erase 99).trans rfl
theorem rl_L_erase_101 : (am_pg z_L_erase).2 101 = some (.invokevirtual 109, 104, 236, 3, 1, 35, 0, []) := (congrFun pm_L_erase 101).trans rfl
theorem rl_L_erase_104 : (am_pg z_L_erase).2 104 = some (.pop, 105, 0, 0, 0, 0, 0, []) := (congrFun pm_L_erase 104).trans rfl
theorem rl_L_erase_105 : (am_pg z_L_erase).2 105 = some (.iinc 3 (1), 108, 3, 0, 0, 0, 1, []) := (congrFun pm_L_erase 105).trans rfl
theorem rl_L_erase_108 : (am_pg z_L_erase).2 108 = some (.iinc 4 (1), 111, 4, 0, 0, 0, 1, []) := (congrFun pm_L_erase 108).trans rfl
theorem rl_L_erase_111 : (am_pg z_L_erase).2 111 = some (.goto (-86), 114, 25, 0, 0, 0, 0, []) := (congrFun pm_L_erase 111).trans rfl
theorem rl_L_erase_114 : (am_pg z_L_erase).2 114 = some (.iload_n 3, 115, 3, 0, 0, 0, 0, []) := (congrFun pm_L_erase 114).trans rfl
theorem rl_L_erase_115 : (am_pg z_L_erase).2 115 = some (.ireturn, 116, 0, 0, 0, 0, 0, []) := (congrFun pm_L_erase 115).trans rfl
theorem rl_L_routes_0 : (am_pg z_L_routes).2 0 = some (.iload_n 1, 1, 1, 0, 0, 0, 0, []) := (congrFun pm_L_routes 0).trans rfl
theorem rl_L_routes_1 : (am_pg z_L_routes).2 1 = some (.invokestatic 102, 4, 70, 1, 0, 32, 0, []) := (congrFun pm_L_routes 1).trans rfl
theorem rl_L_routes_4 : (am_pg z_L_routes).2 4 = some (.ifCond .eq (22), 7, 26, 0, 0, 0, 0, []) := (congrFun pm_L_routes 4).trans rfl
theorem rl_L_routes_7 : (am_pg z_L_routes).2 7 = some (.iload_n 2, 8, 2, 0, 0, 0, 0, []) := (congrFun pm_L_routes 7).trans rfl
theorem rl_L_routes_8 : (am_pg z_L_routes).2 8 = some (.invokestatic 102, 11, 70, 1, 0, 32, 0, []) := (congrFun pm_L_routes 8).trans rfl
theorem rl_L_routes_11 : (am_pg z_L_routes).2 11 = some (.ifCond .eq (15), 14, 26, 0, 0, 0, 0, []) := (congrFun pm_L_routes 11).trans rfl
theorem rl_L_routes_14 : (am_pg z_L_routes).2 14 = some (.iload_n 1, 15, 1, 0, 0, 0, 0, []) := (congrFun pm_L_routes 14).trans rfl
theorem rl_L_routes_15 : (am_pg z_L_routes).2 15 = some (.iload_n 2, 16, 2, 0, 0, 0, 0, []) := (congrFun pm_L_routes 15).trans rfl
theorem rl_L_routes_16 : (am_pg z_L_routes).2 16 = some (.if_icmp .eq (10), 19, 26, 0, 0, 0, 0, []) := (congrFun pm_L_routes 16).trans rfl
theorem rl_L_routes_19 : (am_pg z_L_routes).2 19 = some (.iload_n 3, 20, 3, 0, 0, 0, 0, []) := (congrFun pm_L_routes 19).trans rfl
theorem rl_L_routes_20 : (am_pg z_L_routes).2 20 = some (.invokestatic 190, 23, 68, 1, 0, 70, 0, []) := (congrFun pm_L_routes 20).trans rfl
theorem rl_L_routes_23 : (am_pg z_L_routes).2 23 = some (.ifCond .ne (5), 26, 28, 0, 0, 0, 0, []) := (congrFun pm_L_routes 23).trans rfl
theorem rl_L_routes_26 : (am_pg z_L_routes).2 26 = some (.iconst (-1), 27, 0, 0, 0, 0, -1, []) := (congrFun pm_L_routes 26).trans rfl
theorem rl_L_routes_27 : (am_pg z_L_routes).2 27 = some (.ireturn, 28, 0, 0, 0, 0, 0, []) := (congrFun pm_L_routes 27).trans rfl
theorem rl_L_routes_28 : (am_pg z_L_routes).2 28 = some (.iconst (0), 29, 0, 0, 0, 0, 0, []) := (congrFun pm_L_routes 28).trans rfl
theorem rl_L_routes_29 : (am_pg z_L_routes).2 29 = some (.istore 4, 31, 4, 0, 0, 0, 0, []) := (congrFun pm_L_routes 29).trans rfl
theorem rl_L_routes_31 : (am_pg z_L_routes).2 31 = some (.iload_n 3, 32, 3, 0, 0, 0, 0, []) := (congrFun pm_L_routes 31).trans rfl
theorem rl_L_routes_32 : (am_pg z_L_routes).2 32 = some (.invokestatic 193, 35, 75, 1, 0, 71, 0, []) := (congrFun pm_L_routes 32).trans rfl
theorem rl_L_routes_35 : (am_pg z_L_routes).2 35 = some (.iconst (1), 36, 0, 0, 0, 0, 1, []) := (congrFun pm_L_routes 35).trans rfl
theorem rl_L_routes_36 : (am_pg z_L_routes).2 36 = some (.invokestatic 202, 39, 0, 2, 2, 3, 0, []) := (congrFun pm_L_routes 36).trans rfl
theorem rl_L_routes_39 : (am_pg z_L_routes).2 39 = some (.istore 5, 41, 5, 0, 0, 0, 0, []) := (congrFun pm_L_routes 39).trans rfl
theorem rl_L_routes_41 : (am_pg z_L_routes).2 41 = some (.iload 5, 43, 5, 0, 0, 0, 0, []) := (congrFun pm_L_routes 41).trans rfl
theorem rl_L_routes_43 : (am_pg z_L_routes).2 43 = some (.iload_n 3, 44, 3, 0, 0, 0, 0, []) := (congrFun pm_L_routes 43).trans rfl
theorem rl_L_routes_44 : (am_pg z_L_routes).2 44 = some (.invokestatic 196, 47, 76, 1, 0, 72, 0, []) := (congrFun pm_L_routes 44).trans rfl
theorem rl_L_routes_47 : (am_pg z_L_routes).2 47 = some (.if_icmp .gt (46), 50, 93, 0, 0, 0, 0, []) := (congrFun pm_L_routes 47).trans rfl
theorem rl_L_routes_50 : (am_pg z_L_routes).2 50 = some (.aload_n 0, 51, 0, 0, 0, 0, 0, []) := (congrFun pm_L_routes 50).trans rfl
theorem rl_L_routes_51 : (am_pg z_L_routes).2 51 = some (.getfield 10, 54, 8, 0, 0, 67, 0, []) := (congrFun pm_L_routes 51).trans rfl
theorem rl_L_routes_54 : (am_pg z_L_routes).2 54 = some (.getfield 95, 57, 6, 0, 0, 24, 0, []) := (congrFun pm_L_routes 54).trans rfl
theorem rl_L_routes_57 : (am_pg z_L_routes).2 57 = some (.iload 5, 59, 5, 0, 0, 0, 0, []) := (congrFun pm_L_routes 57).trans rfl
theorem rl_L_routes_59 : (am_pg z_L_routes).2 59 = some (.invokevirtual 150, 62, 237, 1, 1, 47, 0, []) := (congrFun pm_L_routes 59).trans rfl
theorem rl_L_routes_62 : (am_pg z_L_routes).2 62 = some (.iload_n 2, 63, 2, 0, 0, 0, 0, []) := (congrFun pm_L_routes 62).trans rfl
theorem rl_L_routes_63 : (am_pg z_L_routes).2 63 = some (.if_icmp .ne (24), 66, 87, 0, 0, 0, 0, []) := (congrFun pm_L_routes 63).trans rfl
theorem rl_L_routes_66 : (am_pg z_L_routes).2 66 = some (.aload_n 0, 67, 0, 0, 0, 0, 0, []) := (congrFun pm_L_routes 66).trans rfl
theorem rl_L_routes_67 : (am_pg z_L_routes).2 67 = some (.getfield 10, 70, 8, 0, 0, 67, 0, []) := (congrFun pm_L_routes 67).trans rfl
theorem rl_L_routes_70 : (am_pg z_L_routes).2 70 = some (.getfield 95, 73, 6, 0, 0, 24, 0, []) := (congrFun pm_L_routes 70).trans rfl
theorem rl_L_routes_73 : (am_pg z_L_routes).2 73 = some (.iload 5, 75, 5, 0, 0, 0, 0, []) := (congrFun pm_L_routes 73).trans rfl
theorem rl_L_routes_75 : (am_pg z_L_routes).2 75 = some (.iconst (1), 76, 0, 0, 0, 0, 1, []) := (congrFun pm_L_routes 75).trans rfl
theorem rl_L_routes_76 : (am_pg z_L_routes).2 76 = some (.isub, 77, 0, 0, 0, 0, 0, []) := (congrFun pm_L_routes 76).trans rfl
theorem rl_L_routes_77 : (am_pg z_L_routes).2 77 = some (.invokevirtual 150, 80, 237, 1, 1, 47, 0, []) := (congrFun pm_L_routes 77).trans rfl
theorem rl_L_routes_80 : (am_pg z_L_routes).2 80 = some (.iload_n 1, 81, 1, 0, 0, 0, 0, []) := (congrFun pm_L_routes 80).trans rfl
theorem rl_L_routes_81 : (am_pg z_L_routes).2 81 = some (.if_icmp .ne (6), 84, 87, 0, 0, 0, 0, []) := (congrFun pm_L_routes 81).trans rfl
theorem rl_L_routes_84 : (am_pg z_L_routes).2 84 = some (.iinc 4 (1), 87, 4, 0, 0, 0, 1, []) := (congrFun pm_L_routes 84).trans rfl
theorem rl_L_routes_87 : (am_pg z_L_routes).2 87 = some (.iinc 5 (1), 90, 5, 0, 0, 0, 1, []) := (congrFun pm_L_routes 87).trans rfl
theorem rl_L_routes_90 : (am_pg z_L_routes).2 90 = some (.goto (-49), 93, 41, 0, 0, 0, 0, []) := (congrFun pm_L_routes 90).trans rfl
theorem rl_L_routes_93 : (am_pg z_L_routes).2 93 = some (.iload 4, 95, 4, 0, 0, 0, 0, []) := (congrFun pm_L_routes 93).trans rfl
theorem rl_L_routes_95 : (am_pg z_L_routes).2 95 = some (.ireturn, 96, 0, 0, 0, 0, 0, []) := (congrFun pm_L_routes 95).trans rfl
theorem rl_L_latest_0 : (am_pg z_L_latest).2 0 = some (.iload_n 1, 1, 1, 0, 0, 0, 0, []) := (congrFun pm_L_latest 0).trans rfl
theorem rl_L_latest_1 : (am_pg z_L_latest).2 1 = some (.invokestatic 113, 4, 69, 1, 0, 37, 0, []) := (congrFun pm_L_latest 1).trans rfl
theorem rl_L_latest_4 : (am_pg z_L_latest).2 4 = some (.ifCond .eq (10), 7, 14, 0, 0, 0, 0, []) := (congrFun pm_L_latest 4).trans rfl
theorem rl_L_latest_7 : (am_pg z_L_latest).2 7 = some (.iload_n 2, 8, 2, 0, 0, 0, 0, []) := (congrFun pm_L_latest 7).trans rfl
theorem rl_L_latest_8 : (am_pg z_L_latest).2 8 = some (.invokestatic 190, 11, 68, 1, 0, 70, 0, []) := (congrFun pm_L_latest 8).trans rfl
theorem rl_L_latest_11 : (am_pg z_L_latest).2 11 = some (.ifCond .ne (5), 14, 16, 0, 0, 0, 0, []) := (congrFun pm_L_latest 11).trans rfl
theorem rl_L_latest_14 : (am_pg z_L_latest).2 14 = some (.iconst (-1), 15, 0, 0, 0, 0, -1, []) := (congrFun pm_L_latest 14).trans rfl
theorem rl_L_latest_15 : (am_pg z_L_latest).2 15 = some (.ireturn, 16, 0, 0, 0, 0, 0, []) := (congrFun pm_L_latest 15).trans rfl
theorem rl_L_latest_16 : (am_pg z_L_latest).2 16 = some (.aload_n 0, 17, 0, 0, 0, 0, 0, []) := (congrFun pm_L_latest 16).trans rfl
theorem rl_L_latest_17 : (am_pg z_L_latest).2 17 = some (.getfield 56, 20, 8, 6, 0, 73, 0, []) := (congrFun pm_L_latest 17).trans rfl
theorem rl_L_latest_20 : (am_pg z_L_latest).2 20 = some (.aload_n 0, 21, 0, 0, 0, 0, 0, []) := (congrFun pm_L_latest 20).trans rfl
theorem rl_L_latest_21 : (am_pg z_L_latest).2 21 = some (.getfield 10, 24, 8, 0, 0, 67, 0, []) := (congrFun pm_L_latest 21).trans rfl
theorem rl_L_latest_24 : (am_pg z_L_latest).2 24 = some (.getfield 95, 27, 6, 0, 0, 24, 0, []) := (congrFun pm_L_latest 24).trans rfl
theorem rl_L_latest_27 : (am_pg z_L_latest).2 27 = some (.invokevirtual 245, 30, 210, 1, 0, 100, 0, []) := (congrFun pm_L_latest 27).trans rfl
theorem rl_L_latest_30 : (am_pg z_L_latest).2 30 = some (.aload_n 0, 31, 0, 0, 0, 0, 0, []) := (congrFun pm_L_latest 30).trans rfl
theorem rl_L_latest_31 : (am_pg z_L_latest).2 31 = some (.getfield 69, 34, 8, 7, 0, 74, 0, []) := (congrFun pm_L_latest 31).trans rfl
theorem rl_L_latest_34 : (am_pg z_L_latest).2 34 = some (.aload_n 0, 35, 0, 0, 0, 0, 0, []) := (congrFun pm_L_latest 34).trans rfl
theorem rl_L_latest_35 : (am_pg z_L_latest).2 35 = some (.getfield 10, 38, 8, 0, 0, 67, 0, []) := (congrFun pm_L_latest 35).trans rfl
theorem rl_L_latest_38 : (am_pg z_L_latest).2 38 = some (.getfield 95, 41, 6, 0, 0, 24, 0, []) := (congrFun pm_L_latest 38).trans rfl
theorem rl_L_latest_41 : (am_pg z_L_latest).2 41 = some (.iload_n 1, 42, 1, 0, 0, 0, 0, []) := (congrFun pm_L_latest 41).trans rfl
theorem rl_L_latest_42 : (am_pg z_L_latest).2 42 = some (.invokevirtual 236, 45, 257, 2, 3, 91, 0, []) := (congrFun pm_L_latest 42).trans rfl
theorem rl_L_latest_45 : (am_pg z_L_latest).2 45 = some (.iload_n 2, 46, 2, 0, 0, 0, 0, []) := (congrFun pm_L_latest 45).trans rfl
theorem rl_L_latest_46 : (am_pg z_L_latest).2 46 = some (.invokestatic 196, 49, 76, 1, 0, 72, 0, []) := (congrFun pm_L_latest 46).trans rfl
theorem rl_L_latest_49 : (am_pg z_L_latest).2 49 = some (.istore_n 3, 50, 3, 0, 0, 0, 0, []) := (congrFun pm_L_latest 49).trans rfl
theorem rl_L_latest_50 : (am_pg z_L_latest).2 50 = some (.iload_n 3, 51, 3, 0, 0, 0, 0, []) := (congrFun pm_L_latest 50).trans rfl
theorem rl_L_latest_51 : (am_pg z_L_latest).2 51 = some (.iload_n 2, 52, 2, 0, 0, 0, 0, []) := (congrFun pm_L_latest 51).trans rfl
theorem rl_L_latest_52 : (am_pg z_L_latest).2 52 = some (.invokestatic 193, 55, 75, 1, 0, 71, 0, []) := (congrFun pm_L_latest 52).trans rfl
theorem rl_L_latest_55 : (am_pg z_L_latest).2 55 = some (.if_icmp .lt (63), 58, 118, 0, 0, 0, 0, []) := (congrFun pm_L_latest 55).trans rfl
theorem rl_L_latest_58 : (am_pg z_L_latest).2 58 = some (.aload_n 0, 59, 0, 0, 0, 0, 0, []) := (congrFun pm_L_latest 58).trans rfl
theorem rl_L_latest_59 : (am_pg z_L_latest).2 59 = some (.getfield 69, 62, 8, 7, 0, 74, 0, []) := (congrFun pm_L_latest 59).trans rfl
theorem rl_L_latest_62 : (am_pg z_L_latest).2 62 = some (.iload_n 2, 63, 2, 0, 0, 0, 0, []) := (congrFun pm_L_latest 62).trans rfl
theorem rl_L_latest_63 : (am_pg z_L_latest).2 63 = some (.invokestatic 193, 66, 75, 1, 0, 71, 0, []) := (congrFun pm_L_latest 63).trans rfl
theorem rl_L_latest_66 : (am_pg z_L_latest).2 66 = some (.iload_n 3, 67, 3, 0, 0, 0, 0, []) := (congrFun pm_L_latest 66).trans rfl
theorem rl_L_latest_67 : (am_pg z_L_latest).2 67 = some (.iconst (1), 68, 0, 0, 0, 0, 1, []) := (congrFun pm_L_latest 67).trans rfl
theorem rl_L_latest_68 : (am_pg z_L_latest).2 68 = some (.isub, 69, 0, 0, 0, 0, 0, []) := (congrFun pm_L_latest 68).trans rfl
theorem rl_L_latest_69 : (am_pg z_L_latest).2 69 = some (.invokevirtual 251, 72, 258, 2, 3, 107, 0, []) := (congrFun pm_L_latest 69).trans rfl
theorem rl_L_latest_72 : (am_pg z_L_latest).2 72 = some (.iload_n 2, 73, 2, 0, 0, 0, 0, []) := (congrFun pm_L_latest 72).trans rfl
theorem rl_L_latest_73 : (am_pg z_L_latest).2 73 = some (.invokestatic 196, 76, 76, 1, 0, 72, 0, []) := (congrFun pm_L_latest 73).trans rfl
theorem rl_L_latest_76 : (am_pg z_L_latest).2 76 = some (.iadd, 77, 0, 0, 0, 0, 0, []) := (congrFun pm_L_latest 76).trans rfl
theorem rl_L_latest_77 : (am_pg z_L_latest).2 77 = some (.iload_n 3, 78, 3, 0, 0, 0, 0, []) := (congrFun pm_L_latest 77).trans rfl
theorem rl_L_latest_78 : (am_pg z_L_latest).2 78 = some (.isub, 79, 0, 0, 0, 0, 0, []) := (congrFun pm_L_latest 78).trans rfl
theorem rl_L_latest_79 : (am_pg z_L_latest).2 79 = some (.iconst (1), 80, 0, 0, 0, 0, 1, []) := (congrFun pm_L_latest 79).trans rfl
theorem rl_L_latest_80 : (am_pg z_L_latest).2 80 = some (.iadd, 81, 0, 0, 0, 0, 0, []) := (congrFun pm_L_latest 80).trans rfl
theorem rl_L_latest_81 : (am_pg z_L_latest).2 81 = some (.istore 4, 83, 4, 0, 0, 0, 0, []) := (congrFun pm_L_latest 81).trans rfl
theorem rl_L_latest_83 : (am_pg z_L_latest).2 83 = some (.aload_n 0, 84, 0, 0, 0, 0, 0, []) := (congrFun pm_L_latest 83).trans rfl
theorem rl_L_latest_84 : (am_pg z_L_latest).2 84 = some (.getfield 56, 87, 8, 6, 0, 73, 0, []) := (congrFun pm_L_latest 84).trans rfl
theorem rl_L_latest_87 : (am_pg z_L_latest).2 87 = some (.getfield 273, 90, 0, 2, 0, 58, 0, []) := (congrFun pm_L_latest 87).trans rfl
theorem rl_L_latest_90 : (am_pg z_L_latest).2 90 = some (.iload_n 1, 91, 1, 0, 0, 0, 0, []) := (congrFun pm_L_latest 90).trans rfl
theorem rl_L_latest_91 : (am_pg z_L_latest).2 91 = some (.iload_n 2, 92, 2, 0, 0, 0, 0, []) := (congrFun pm_L_latest 91).trans rfl
theorem rl_L_latest_92 : (am_pg z_L_latest).2 92 = some (.invokestatic 276, 95, 78, 2, 0, 118, 0, []) := (congrFun pm_L_latest 92).trans rfl
theorem rl_L_latest_95 : (am_pg z_L_latest).2 95 = some (.iload 4, 97, 4, 0, 0, 0, 0, []) := (congrFun pm_L_latest 95).trans rfl
theorem rl_L_latest_97 : (am_pg z_L_latest).2 97 = some (.iastore, 98, 0, 0, 0, 0, 0, []) := (congrFun pm_L_latest 97).trans rfl
theorem rl_L_latest_98 : (am_pg z_L_latest).2 98 = some (.aload_n 0, 99, 0, 0, 0, 0, 0, []) := (congrFun pm_L_latest 98).trans rfl
theorem rl_L_latest_99 : (am_pg z_L_latest).2 99 = some (.getfield 56, 102, 8, 6, 0, 73, 0, []) := (congrFun pm_L_latest 99).trans rfl
theorem rl_L_latest_102 : (am_pg z_L_latest).2 102 = some (.iload_n 1, 103, 1, 0, 0, 0, 0, []) := (congrFun pm_L_latest 102).trans rfl
theorem rl_L_latest_103 : (am_pg z_L_latest).2 103 = some (.iload_n 2, 104, 2, 0, 0, 0, 0, []) := (congrFun pm_L_latest 103).trans rfl
theorem rl_L_latest_104 : (am_pg z_L_latest).2 104 = some (.invokevirtual 279, 107, 216, 2, 0, 119, 0, []) := (congrFun pm_L_latest 104).trans rfl
theorem rl_L_latest_107 : (am_pg z_L_latest).2 107 = some (.ifCond .eq (5), 110, 112, 0, 0, 0, 0, []) := (congrFun pm_L_latest 107).trans rfl
theorem rl_L_latest_110 : (am_pg z_L_latest).2 110 = some (.iload_n 3, 111, 3, 0, 0, 0, 0, []) := (congrFun pm_L_latest 110).trans rfl
theorem rl_L_latest_111 : (am_pg z_L_latest).2 111 = some (.ireturn, 112, 0, 0, 0, 0, 0, []) := (congrFun pm_L_latest 111).trans rfl
theorem rl_L_latest_112 : (am_pg z_L_latest).2 112 = some (.iinc 3 (-1), 115, 3, 0, 0, 0, -1, []) := (congrFun pm_L_latest 112).trans rfl
theorem rl_L_latest_115 : (am_pg z_L_latest).2 115 = some (.goto (-65), 118, 50, 0, 0, 0, 0, []) := (congrFun pm_L_latest 115).trans rfl
theorem rl_L_latest_118 : (am_pg z_L_latest).2 118 = some (.bipush (-2), 120, 0, 0, 0, 0, -2, []) := (congrFun pm_L_latest 118).trans rfl
theorem rl_L_latest_120 : (am_pg z_L_latest).2 120 = some (.ireturn, 121, 0, 0, 0, 0, 0, []) := (congrFun pm_L_latest 120).trans rfl
theorem rl_L_wins_0 : (am_pg z_L_wins).2 0 = some (.iload_n 1, 1, 1, 0, 0, 0, 0, []) := (congrFun pm_L_wins 0).trans rfl
theorem rl_L_wins_1 : (am_pg z_L_wins).2 1 = some (.invokestatic 113, 4, 69, 1, 0, 37, 0, []) := (congrFun pm_L_wins 1).trans rfl
theorem rl_L_wins_4 : (am_pg z_L_wins).2 4 = some (.ifCond .eq (10), 7, 14, 0, 0, 0, 0, []) := (congrFun pm_L_wins 4).trans rfl
theorem rl_L_wins_7 : (am_pg z_L_wins).2 7 = some (.iload_n 2, 8, 2, 0, 0, 0, 0, []) := (congrFun pm_L_wins 7).trans rfl
theorem rl_L_wins_8 : (am_pg z_L_wins).2 8 = some (.invokestatic 190, 11, 68, 1, 0, 70, 0, []) := (congrFun pm_L_wins 8).trans rfl
theorem rl_L_wins_11 : (am_pg z_L_wins).2 11 = some (.ifCond .ne (5), 14, 16, 0, 0, 0, 0, []) := (congrFun pm_L_wins 11).trans rfl
theorem rl_L_wins_14 : (am_pg z_L_wins).2 14 = some (.iconst (-1), 15, 0, 0, 0, 0, -1, []) := (congrFun pm_L_wins 14).trans rfl
theorem rl_L_wins_15 : (am_pg z_L_wins).2 15 = some (.ireturn, 16, 0, 0, 0, 0, 0, []) := (congrFun pm_L_wins 15).trans rfl
theorem rl_L_wins_16 : (am_pg z_L_wins).2 16 = some (.aload_n 0, 17, 0, 0, 0, 0, 0, []) := (congrFun pm_L_wins 16).trans rfl
theorem rl_L_wins_17 : (am_pg z_L_wins).2 17 = some (.getfield 56, 20, 8, 6, 0, 73, 0, []) := (congrFun pm_L_wins 17).trans rfl
theorem rl_L_wins_20 : (am_pg z_L_wins).2 20 = some (.aload_n 0, 21, 0, 0, 0, 0, 0, []) := (congrFun pm_L_wins 20).trans rfl
theorem rl_L_wins_21 : (am_pg z_L_wins).2 21 = some (.getfield 10, 24, 8, 0, 0, 67, 0, []) := (congrFun pm_L_wins 21).trans rfl
theorem rl_L_wins_24 : (am_pg z_L_wins).2 24 = some (.getfield 95, 27, 6, 0, 0, 24, 0, []) := (congrFun pm_L_wins 24).trans rfl
theorem rl_L_wins_27 : (am_pg z_L_wins).2 27 = some (.invokevirtual 245, 30, 210, 1, 0, 100, 0, []) := (congrFun pm_L_wins 27).trans rfl
theorem rl_L_wins_30 : (am_pg z_L_wins).2 30 = some (.aload_n 0, 31, 0, 0, 0, 0, 0, []) := (congrFun pm_L_wins 30).trans rfl
theorem rl_L_wins_31 : (am_pg z_L_wins).2 31 = some (.getfield 56, 34, 8, 6, 0, 73, 0, []) := (congrFun pm_L_wins 31).trans rfl
theorem rl_L_wins_34 : (am_pg z_L_wins).2 34 = some (.iload_n 2, 35, 2, 0, 0, 0, 0, []) := (congrFun pm_L_wins 34).trans rfl
theorem rl_L_wins_35 : (am_pg z_L_wins).2 35 = some (.invokevirtual 282, 38, 217, 1, 0, 124, 0, []) := (congrFun pm_L_wins 35).trans rfl
theorem rl_L_wins_38 : (am_pg z_L_wins).2 38 = some (.istore_n 3, 39, 3, 0, 0, 0, 0, []) := (congrFun pm_L_wins 38).trans rfl
theorem rl_L_wins_39 : (am_pg z_L_wins).2 39 = some (.iload_n 3, 40, 3, 0, 0, 0, 0, []) := (congrFun pm_L_wins 39).trans rfl
theorem rl_L_wins_40 : (am_pg z_L_wins).2 40 = some (.iload_n 1, 41, 1, 0, 0, 0, 0, []) := (congrFun pm_L_wins 40).trans rfl
theorem rl_L_wins_41 : (am_pg z_L_wins).2 41 = some (.invokestatic 285, 44, 74, 2, 0, 125, 0, []) := (congrFun pm_L_wins 41).trans rfl
theorem rl_L_wins_44 : (am_pg z_L_wins).2 44 = some (.ifCond .ne (6), 47, 50, 0, 0, 0, 0, []) := (congrFun pm_L_wins 44).trans rfl
theorem rl_L_wins_47 : (am_pg z_L_wins).2 47 = some (.bipush (-2), 49, 0, 0, 0, 0, -2, []) := (congrFun pm_L_wins 47).trans rfl
theorem rl_L_wins_49 : (am_pg z_L_wins).2 49 = some (.ireturn, 50, 0, 0, 0, 0, 0, []) := (congrFun pm_L_wins 49).trans rfl
theorem rl_L_wins_50 : (am_pg z_L_wins).2 50 = some (.aload_n 0, 51, 0, 0, 0, 0, 0, []) := (congrFun pm_L_wins 50).trans rfl
theorem rl_L_wins_51 : (am_pg z_L_wins).2 51 = some (.getfield 56, 54, 8, 6, 0, 73, 0, []) := (congrFun pm_L_wins 51).trans rfl
theorem rl_L_wins_54 : (am_pg z_L_wins).2 54 = some (.iload_n 1, 55, 1, 0, 0, 0, 0, []) := (congrFun pm_L_wins 54).trans rfl
theorem rl_L_wins_55 : (am_pg z_L_wins).2 55 = some (.iload_n 3, 56, 3, 0, 0, 0, 0, []) := (congrFun pm_L_wins 55).trans rfl
theorem rl_L_wins_56 : (am_pg z_L_wins).2 56 = some (.iload_n 2, 57, 2, 0, 0, 0, 0, []) := (congrFun pm_L_wins 56).trans rfl
theorem rl_L_wins_57 : (am_pg z_L_wins).2 57 = some (.invokevirtual 288, 60, 223, 3, 0, 126, 0, []) := (congrFun pm_L_wins 57).trans rfl
theorem rl_L_wins_60 : (am_pg z_L_wins).2 60 = some (.ireturn, 61, 0, 0, 0, 0, 0, []) := (congrFun pm_L_wins 60).trans rfl
theorem rl_L_partner_0 : (am_pg z_L_partner).2 0 = some (.aload_n 0, 1, 0, 0, 0, 0, 0, []) := (congrFun pm_L_partner 0).trans rfl
theorem rl_L_partner_1 : (am_pg z_L_partner).2 1 = some (.getfield 10, 4, 8, 0, 0, 67, 0, []) := (congrFun pm_L_partner 1).trans rfl
theorem rl_L_partner_4 : (am_pg z_L_partner).2 4 = some (.getfield 291, 7, 6, 2, 0, 29, 0, []) := (congrFun pm_L_partner 4).trans rfl
theorem rl_L_partner_7 : (am_pg z_L_partner).2 7 = some (.aload_n 0, 8, 0, 0, 0, 0, 0, []) := (congrFun pm_L_partner 7).trans rfl
theorem rl_L_partner_8 : (am_pg z_L_partner).2 8 = some (.getfield 10, 11, 8, 0, 0, 67, 0, []) := (congrFun pm_L_partner 8).trans rfl
theorem rl_L_partner_11 : (am_pg z_L_partner).2 11 = some (.getfield 95, 14, 6, 0, 0, 24, 0, []) := (congrFun pm_L_partner 11).trans rfl
theorem rl_L_partner_14 : (am_pg z_L_partner).2 14 = some (.invokevirtual 257, 17, 234, 1, 1, 112, 0, []) := (congrFun pm_L_partner 14).trans rfl
theorem rl_L_partner_17 : (am_pg z_L_partner).2 17 = some (.aload_n 0, 18, 0, 0, 0, 0, 0, []) := (congrFun pm_L_partner 17).trans rfl
theorem rl_L_partner_18 : (am_pg z_L_partner).2 18 = some (.getfield 10, 21, 8, 0, 0, 67, 0, []) := (congrFun pm_L_partner 18).trans rfl
theorem rl_L_partner_21 : (am_pg z_L_partner).2 21 = some (.iconst (1), 22, 0, 0, 0, 0, 1, []) := (congrFun pm_L_partner 21).trans rfl
theorem rl_L_partner_22 : (am_pg z_L_partner).2 22 = some (.putfield 294, 25, 6, 5, 1, 37, 0, []) := (congrFun pm_L_partner 22).trans rfl
theorem rl_L_partner_25 : (am_pg z_L_partner).2 25 = some (.aload_n 0, 26, 0, 0, 0, 0, 0, []) := (congrFun pm_L_partner 25).trans rfl
theorem rl_L_partner_26 : (am_pg z_L_partner).2 26 = some (.getfield 10, 29, 8, 0, 0, 67, 0, []) := (congrFun pm_L_partner 26).trans rfl
theorem rl_L_partner_29 : (am_pg z_L_partner).2 29 = some (.getfield 95, 32, 6, 0, 0, 24, 0, []) := (congrFun pm_L_partner 29).trans rfl
theorem rl_L_partner_32 : (am_pg z_L_partner).2 32 = some (.invokevirtual 298, 35, 240, 0, 1, 134, 0, []) := (congrFun pm_L_partner 32).trans rfl
theorem rl_L_partner_35 : (am_pg z_L_partner).2 35 = some (.ireturn, 36, 0, 0, 0, 0, 0, []) := (congrFun pm_L_partner 35).trans rfl
theorem rl_L_together_0 : (am_pg z_L_together).2 0 = some (.iload_n 1, 1, 1, 0, 0, 0, 0, []) := (congrFun pm_L_together 0).trans rfl
theorem rl_L_together_1 : (am_pg z_L_together).2 1 = some (.invokestatic 190, 4, 68, 1, 0, 70, 0, []) := (congrFun pm_L_together 1).trans rfl
theorem rl_L_together_4 : (am_pg z_L_together).2 4 = some (.ifCond .eq (12), 7, 16, 0, 0, 0, 0, []) := (congrFun pm_L_together 4).trans rfl
theorem rl_L_together_7 : (am_pg z_L_together).2 7 = some (.iload_n 2, 8, 2, 0, 0, 0, 0, []) := (congrFun pm_L_together 7).trans rfl
theorem rl_L_together_8 : (am_pg z_L_together).2 8 = some (.iconst (0), 9, 0, 0, 0, 0, 0, []) := (congrFun pm_L_together 8).trans rfl
theorem rl_L_together_9 : (am_pg z_L_together).2 9 = some (.iconst (3), 10, 0, 0, 0, 0, 3, []) := (congrFun pm_L_together 9).trans rfl
theorem rl_L_together_10 : (am_pg z_L_together).2 10 = some (.invokestatic 133, 13, 65, 3, 0, 16, 0, []) := (congrFun pm_L_together 10).trans rfl
theorem rl_L_together_13 : (am_pg z_L_together).2 13 = some (.ifCond .ne (5), 16, 18, 0, 0, 0, 0, []) := (congrFun pm_L_together 13).trans rfl
theorem rl_L_together_16 : (am_pg z_L_together).2 16 = some (.iconst (-1), 17, 0, 0, 0, 0, -1, []) := (congrFun pm_L_together 16).trans rfl
theorem rl_L_together_17 : (am_pg z_L_together).2 17 = some (.ireturn, 18, 0, 0, 0, 0, 0, []) := (congrFun pm_L_together 17).trans rfl
theorem rl_L_together_18 : (am_pg z_L_together).2 18 = some (.aload_n 0, 19, 0, 0, 0, 0, 0, []) := (congrFun pm_L_together 18).trans rfl
theorem rl_L_together_19 : (am_pg z_L_together).2 19 = some (.getfield 10, 22, 8, 0, 0, 67, 0, []) := (congrFun pm_L_together 19).trans rfl
theorem rl_L_together_22 : (am_pg z_L_together).2 22 = some (.getfield 294, 25, 6, 5, 0, 37, 0, []) := (congrFun pm_L_together 22).trans rfl
theorem rl_L_together_25 : (am_pg z_L_together).2 25 = some (.ifCond .ne (6), 28, 31, 0, 0, 0, 0, []) := (congrFun pm_L_together 25).trans rfl
theorem rl_L_together_28 : (am_pg z_L_together).2 28 = some (.bipush (-2), 30, 0, 0, 0, 0, -2, []) := (congrFun pm_L_together 28).trans rfl
theorem rl_L_together_30 : (am_pg z_L_together).2 30 = some (.ireturn, 31, 0, 0, 0, 0, 0, []) := (congrFun pm_L_together 30).trans rfl
theorem rl_L_together_31 : (am_pg z_L_together).2 31 = some (.iconst (0), 32, 0, 0, 0, 0, 0, []) := (congrFun pm_L_together 31).trans rfl
theorem rl_L_together_32 : (am_pg z_L_together).2 32 = some (.istore_n 3, 33, 3, 0, 0, 0, 0, []) := (congrFun pm_L_together 32).trans rfl
theorem rl_L_together_33 : (am_pg z_L_together).2 33 = some (.iconst (0), 34, 0, 0, 0, 0, 0, []) := (congrFun pm_L_together 33).trans rfl
theorem rl_L_together_34 : (am_pg z_L_together).2 34 = some (.istore 4, 36, 4, 0, 0, 0, 0, []) := (congrFun pm_L_together 34).trans rfl
theorem rl_L_together_36 : (am_pg z_L_together).2 36 = some (.iconst (0), 37, 0, 0, 0, 0, 0, []) := (congrFun pm_L_together 36).trans rfl
theorem rl_L_together_37 : (am_pg z_L_together).2 37 = some (.istore 5, 39, 5, 0, 0, 0, 0, []) := (congrFun pm_L_together 37).trans rfl
theorem rl_L_together_39 : (am_pg z_L_together).2 39 = some (.iconst (0), 40, 0, 0, 0, 0, 0, []) := (congrFun pm_L_together 39).trans rfl
theorem rl_L_together_40 : (am_pg z_L_together).2 40 = some (.istore 6, 42, 6, 0, 0, 0, 0, []) := (congrFun pm_L_together 40).trans rfl
theorem rl_L_together_42 : (am_pg z_L_together).2 42 = some (.iload_n 1, 43, 1, 0, 0, 0, 0, []) := (congrFun pm_L_together 42).trans rfl
theorem rl_L_together_43 : (am_pg z_L_together).2 43 = some (.invokestatic 193, 46, 75, 1, 0, 71, 0, []) := (congrFun pm_L_together 43).trans rfl
theorem rl_L_together_46 : (am_pg z_L_together).2 46 = some (.istore 7, 48, 7, 0, 0, 0, 0, []) := (congrFun pm_L_together 46).trans rfl
theorem rl_L_together_48 : (am_pg z_L_together).2 48 = some (.iload 7, 50, 7, 0, 0, 0, 0, []) := (congrFun pm_L_together 48).trans rfl
theorem rl_L_together_50 : (am_pg z_L_together).2 50 = some (.iload_n 1, 51, 1, 0, 0, 0, 0, []) := (congrFun pm_L_together 50).trans rfl
theorem rl_L_together_51 : (am_pg z_L_together).2 51 = some (.invokestatic 196, 54, 76, 1, 0, 72, 0, []) := (congrFun pm_L_together 51).trans rfl
theorem rl_L_together_54 : (am_pg z_L_together).2 54 = some (.if_icmp .gt (94), 57, 148, 0, 0, 0, 0, []) := (congrFun pm_L_together 54).trans rfl
theorem rl_L_together_57 : (am_pg z_L_together).2 57 = some (.aload_n 0, 58, 0, 0, 0, 0, 0, []) := (congrFun pm_L_together 57).trans rfl
theorem rl_L_together_58 : (am_pg z_L_together).2 58 = some (.getfield 10, 61, 8, 0, 0, 67, 0, []) := (congrFun pm_L_together 58).trans rfl
theorem rl_L_together_61 : (am_pg z_L_together).2 61 = some (.getfield 95, 64, 6, 0, 0, 24, 0, []) := (congrFun pm_L_together 61).trans rfl
theorem rl_L_together_64 : (am_pg z_L_together).2 64 = some (.iload 7, 66, 7, 0, 0, 0, 0, []) := (congrFun pm_L_together 64).trans rfl
theorem rl_L_together_66 : (am_pg z_L_together).2 66 = some (.invokevirtual 150, 69, 237, 1, 1, 47, 0, []) := (congrFun pm_L_together 66).trans rfl
theorem rl_L_together_69 : (am_pg z_L_together).2 69 = some (.istore 8, 71, 8, 0, 0, 0, 0, []) := (congrFun pm_L_together 69).trans rfl
theorem rl_L_together_71 : (am_pg z_L_together).2 71 = some (.iload 8, 73, 8, 0, 0, 0, 0, []) := (congrFun pm_L_together 71).trans rfl
theorem rl_L_together_73 : (am_pg z_L_together).2 73 = some (.iconst (-1), 74, 0, 0, 0, 0, -1, []) := (congrFun pm_L_together 73).trans rfl
theorem rl_L_together_74 : (am_pg z_L_together).2 74 = some (.if_icmp .eq (24), 77, 98, 0, 0, 0, 0, []) := (congrFun pm_L_together 74).trans rfl
theorem rl_L_together_77 : (am_pg z_L_together).2 77 = some (.iload 8, 79, 8, 0, 0, 0, 0, []) := (congrFun pm_L_together 77).trans rfl
theorem rl_L_together_79 : (am_pg z_L_together).2 79 = some (.aload_n 0, 80, 0, 0, 0, 0, 0, []) := (congrFun pm_L_together 79).trans rfl
theorem rl_L_together_80 : (am_pg z_L_together).2 80 = some (.getfield 10, 83, 8, 0, 0, 67, 0, []) := (congrFun pm_L_together 80).trans rfl
theorem rl_L_together_83 : (am_pg z_L_together).2 83 = some (.getfield 291, 86, 6, 2, 0, 29, 0, []) := (congrFun pm_L_together 83).trans rfl
theorem rl_L_together_86 : (am_pg z_L_together).2 86 = some (.iload 7, 88, 7, 0, 0, 0, 0, []) := (congrFun pm_L_together 86).trans rfl
theorem rl_L_together_88 : (am_pg z_L_together).2 88 = some (.invokevirtual 150, 91, 237, 1, 1, 47, 0, []) := (congrFun pm_L_together 88).trans rfl
theorem rl_L_together_91 : (am_pg z_L_together).2 91 = some (.if_icmp .ne (7), 94, 98, 0, 0, 0, 0, []) := (congrFun pm_L_together 91).trans rfl
theorem rl_L_together_94 : (am_pg z_L_together).2 94 = some (.iconst (1), 95, 0, 0, 0, 0, 1, []) := (congrFun pm_L_together 94).trans rfl
theorem rl_L_together_95 : (am_pg z_L_together).2 95 = some (.goto (4), 98, 99, 0, 0, 0, 0, []) := (congrFun pm_L_together 95).trans rfl
theorem rl_L_together_98 : (am_pg z_L_together).2 98 = some (.iconst (0), 99, 0, 0, 0, 0, 0, []) := (congrFun pm_L_together 98).trans rfl
theorem rl_L_together_99 : (am_pg z_L_together).2 99 = some (.istore 9, 101, 9, 0, 0, 0, 0, []) := (congrFun pm_L_together 99).trans rfl
theorem rl_L_together_101 : (am_pg z_L_together).2 101 = some (.iload 9, 103, 9, 0, 0, 0, 0, []) := (congrFun pm_L_together 101).trans rfl
theorem rl_L_together_103 : (am_pg z_L_together).2 103 = some (.ifCond .eq (10), 106, 113, 0, 0, 0, 0, []) := (congrFun pm_L_together 103).trans rfl
theorem rl_L_together_106 : (am_pg z_L_together).2 106 = some (.iload 4, 108, 4, 0, 0, 0, 0, []) := (congrFun pm_L_together 106).trans rfl
theorem rl_L_together_108 : (am_pg z_L_together).2 108 = some (.iconst (1), 109, 0, 0, 0, 0, 1, []) := (congrFun pm_L_together 108).trans rfl
theorem rl_L_together_109 : (am_pg z_L_together).2 109 = some (.iadd, 110, 0, 0, 0, 0, 0, []) := (congrFun pm_L_together 109).trans rfl
theorem rl_L_together_110 : (am_pg z_L_together).2 110 = some (.goto (4), 113, 114, 0, 0, 0, 0, []) := (congrFun pm_L_together 110).trans rfl
theorem rl_L_together_113 : (am_pg z_L_together).2 113 = some (.iconst (0), 114, 0, 0, 0, 0, 0, []) := (congrFun pm_L_together 113).trans rfl
theorem rl_L_together_114 : (am_pg z_L_together).2 114 = some (.istore 4, 116, 4, 0, 0, 0, 0, []) := (congrFun pm_L_together 114).trans rfl
theorem rl_L_together_116 : (am_pg z_L_together).2 116 = some (.iload 5, 118, 5, 0, 0, 0, 0, []) := (congrFun pm_L_together 116).trans rfl
theorem rl_L_together_118 : (am_pg z_L_together).2 118 = some (.iload 4, 120, 4, 0, 0, 0, 0, []) := (congrFun pm_L_together 118).trans rfl
theorem rl_L_together_120 : (am_pg z_L_together).2 120 = some (.invokestatic 202, 123, 0, 2, 2, 3, 0, []) := (congrFun pm_L_together 120).trans rfl
theorem rl_L_together_123 : (am_pg z_L_together).2 123 = some (.istore 5, 125, 5, 0, 0, 0, 0, []) := (congrFun pm_L_together 123).trans rfl
theorem rl_L_together_125 : (am_pg z_L_together).2 125 = some (.iload 9, 127, 9, 0, 0, 0, 0, []) := (congrFun pm_L_together 125).trans rfl
theorem rl_L_together_127 : (am_pg z_L_together).2 127 = some (.ifCond .eq (15), 130, 142, 0, 0, 0, 0, []) := (congrFun pm_L_together 127).trans rfl
theorem rl_L_together_130 : (am_pg z_L_together).2 130 = some (.iinc 3 (1), 133, 3, 0, 0, 0, 1, []) := (congrFun pm_L_together 130).trans rfl
theorem rl_L_together_133 : (am_pg z_L_together).2 133 = some (.iload 6, 135, 6, 0, 0, 0, 0, []) := (congrFun pm_L_together 133).trans rfl
theorem rl_L_together_135 : (am_pg z_L_together).2 135 = some (.iconst (1), 136, 0, 0, 0, 0, 1, []) := (congrFun pm_L_together 135).trans rfl
theorem rl_L_together_136 : (am_pg z_L_together).2 136 = some (.iload 8, 138, 8, 0, 0, 0, 0, []) := (congrFun pm_L_together 136).trans rfl
theorem rl_L_together_138 : (am_pg z_L_together).2 138 = some (.ishl, 139, 0, 0, 0, 0, 0, []) := (congrFun pm_L_together 138).trans rfl
theorem rl_L_together_139 : (am_pg z_L_together).2 139 = some (.ior, 140, 0, 0, 0, 0, 0, []) := (congrFun pm_L_together 139).trans rfl
theorem rl_L_together_140 : (am_pg z_L_together).2 140 = some (.istore 6, 142, 6, 0, 0, 0, 0, []) := (congrFun pm_L_together 140).trans rfl
theorem rl_L_together_142 : (am_pg z_L_together).2 142 = some (.iinc 7 (1), 145, 7, 0, 0, 0, 1, []) := (congrFun pm_L_together 142).trans rfl
theorem rl_L_together_145 : (am_pg z_L_together).2 145 = some (.goto (-97), 148, 48, 0, 0, 0, 0, []) := (congrFun pm_L_together 145).trans rfl
theorem rl_L_together_148 : (am_pg z_L_together).2 148 = some (.iload_n 2, 149, 2, 0, 0, 0, 0, []) := (congrFun pm_L_together 148).trans rfl
theorem rl_L_together_149 : (am_pg z_L_together).2 149 = some (.tableswitch (35) (0) (2) #[27, 29, 32], 176, 184, 0, 0, 0, 0, [(0, 176), (1, 178), (2, 181)]) := (congrFun pm_L_together 149).trans rfl
theorem rl_L_together_176 : (am_pg z_L_together).2 176 = some (.iload_n 3, 177, 3, 0, 0, 0, 0, []) := (congrFun pm_L_together 176).trans rfl
theorem rl_L_together_177 : (am_pg z_L_together).2 177 = some (.ireturn, 178, 0, 0, 0, 0, 0, []) := (congrFun pm_L_together 177).trans rfl
theorem rl_L_together_178 : (am_pg z_L_together).2 178 = some (.iload 5, 180, 5, 0, 0, 0, 0, []) := (congrFun pm_L_together 178).trans rfl
theorem rl_L_together_180 : (am_pg z_L_together).2 180 = some (.ireturn, 181, 0, 0, 0, 0, 0, []) := (congrFun pm_L_together 180).trans rfl
theorem rl_L_together_181 : (am_pg z_L_together).2 181 = some (.iload 6, 183, 6, 0, 0, 0, 0, []) := (congrFun pm_L_together 181).trans rfl
theorem rl_L_together_183 : (am_pg z_L_together).2 183 = some (.ireturn, 184, 0, 0, 0, 0, 0, []) := (congrFun pm_L_together 183).trans rfl
theorem rl_L_together_184 : (am_pg z_L_together).2 184 = some (.sipush (360), 187, 0, 0, 0, 0, 360, []) := (congrFun pm_L_together 184).trans rfl
theorem rl_L_together_187 : (am_pg z_L_together).2 187 = some (.iload_n 3, 188, 3, 0, 0, 0, 0, []) := (congrFun pm_L_together 187).trans rfl
theorem rl_L_together_188 : (am_pg z_L_together).2 188 = some (.isub, 189, 0, 0, 0, 0, 0, []) := (congrFun pm_L_together 188).trans rfl
theorem rl_L_together_189 : (am_pg z_L_together).2 189 = some (.ireturn, 190, 0, 0, 0, 0, 0, []) := (congrFun pm_L_together 189).trans rfl
theorem rl_L_claims_0 : (am_pg z_L_claims).2 0 = some (.iload_n 1, 1, 1, 0, 0, 0, 0, []) := (congrFun pm_L_claims 0).trans rfl
theorem rl_L_claims_1 : (am_pg z_L_claims).2 1 = some (.invokestatic 190, 4, 68, 1, 0, 70, 0, []) := (congrFun pm_L_claims 1).trans rfl
theorem rl_L_claims_4 : (am_pg z_L_claims).2 4 = some (.ifCond .ne (5), 7, 9, 0, 0, 0, 0, []) := (congrFun pm_L_claims 4).trans rfl
theorem rl_L_claims_7 : (am_pg z_L_claims).2 7 = some (.iconst (-1), 8, 0, 0, 0, 0, -1, []) := (congrFun pm_L_claims 7).trans rfl
theorem rl_L_claims_8 : (am_pg z_L_claims).2 8 = some (.ireturn, 9, 0, 0, 0, 0, 0, []) := (congrFun pm_L_claims 8).trans rfl
theorem rl_L_claims_9 : (am_pg z_L_claims).2 9 = some (.aload_n 0, 10, 0, 0, 0, 0, 0, []) := (congrFun pm_L_claims 9).trans rfl
theorem rl_L_claims_10 : (am_pg z_L_claims).2 10 = some (.getfield 56, 13, 8, 6, 0, 73, 0, []) := (congrFun pm_L_claims 10).trans rfl
theorem rl_L_claims_13 : (am_pg z_L_claims).2 13 = some (.aload_n 0, 14, 0, 0, 0, 0, 0, []) := (congrFun pm_L_claims 13).trans rfl
theorem rl_L_claims_14 : (am_pg z_L_claims).2 14 = some (.getfield 10, 17, 8, 0, 0, 67, 0, []) := (congrFun pm_L_claims 14).trans rfl
theorem rl_L_claims_17 : (am_pg z_L_claims).2 17 = some (.getfield 95, 20, 6, 0, 0, 24, 0, []) := (congrFun pm_L_claims 17).trans rfl
theorem rl_L_claims_20 : (am_pg z_L_claims).2 20 = some (.invokevirtual 245, 23, 210, 1, 0, 100, 0, []) := (congrFun pm_L_claims 20).trans rfl
theorem rl_L_claims_23 : (am_pg z_L_claims).2 23 = some (.aload_n 0, 24, 0, 0, 0, 0, 0, []) := (congrFun pm_L_claims 23).trans rfl
theorem rl_L_claims_24 : (am_pg z_L_claims).2 24 = some (.getfield 56, 27, 8, 6, 0, 73, 0, []) := (congrFun pm_L_claims 24).trans rfl
theorem rl_L_claims_27 : (am_pg z_L_claims).2 27 = some (.iload_n 1, 28, 1, 0, 0, 0, 0, []) := (congrFun pm_L_claims 27).trans rfl
theorem rl_L_claims_28 : (am_pg z_L_claims).2 28 = some (.invokevirtual 282, 31, 217, 1, 0, 124, 0, []) := (congrFun pm_L_claims 28).trans rfl
theorem rl_L_claims_31 : (am_pg z_L_claims).2 31 = some (.ireturn, 32, 0, 0, 0, 0, 0, []) := (congrFun pm_L_claims 31).trans rfl
theorem rl_L_holds_0 : (am_pg z_L_holds).2 0 = some (.iload_n 1, 1, 1, 0, 0, 0, 0, []) := (congrFun pm_L_holds 0).trans rfl
theorem rl_L_holds_1 : (am_pg z_L_holds).2 1 = some (.invokestatic 113, 4, 69, 1, 0, 37, 0, []) := (congrFun pm_L_holds 1).trans rfl
theorem rl_L_holds_4 : (am_pg z_L_holds).2 4 = some (.ifCond .eq (10), 7, 14, 0, 0, 0, 0, []) := (congrFun pm_L_holds 4).trans rfl
theorem rl_L_holds_7 : (am_pg z_L_holds).2 7 = some (.iload_n 2, 8, 2, 0, 0, 0, 0, []) := (congrFun pm_L_holds 7).trans rfl
theorem rl_L_holds_8 : (am_pg z_L_holds).2 8 = some (.invokestatic 190, 11, 68, 1, 0, 70, 0, []) := (congrFun pm_L_holds 8).trans rfl
theorem rl_L_holds_11 : (am_pg z_L_holds).2 11 = some (.ifCond .ne (5), 14, 16, 0, 0, 0, 0, []) := (congrFun pm_L_holds 11).trans rfl
theorem rl_L_holds_14 : (am_pg z_L_holds).2 14 = some (.iconst (-1), 15, 0, 0, 0, 0, -1, []) := (congrFun pm_L_holds 14).trans rfl
theorem rl_L_holds_15 : (am_pg z_L_holds).2 15 = some (.ireturn, 16, 0, 0, 0, 0, 0, []) := (congrFun pm_L_holds 15).trans rfl
theorem rl_L_holds_16 : (am_pg z_L_holds).2 16 = some (.aload_n 0, 17, 0, 0, 0, 0, 0, []) := (congrFun pm_L_holds 16).trans rfl
theorem rl_L_holds_17 : (am_pg z_L_holds).2 17 = some (.getfield 56, 20, 8, 6, 0, 73, 0, []) := (congrFun pm_L_holds 17).trans rfl
theorem rl_L_holds_20 : (am_pg z_L_holds).2 20 = some (.aload_n 0, 21, 0, 0, 0, 0, 0, []) := (congrFun pm_L_holds 20).trans rfl
theorem rl_L_holds_21 : (am_pg z_L_holds).2 21 = some (.getfield 10, 24, 8, 0, 0, 67, 0, []) := (congrFun pm_L_holds 21).trans rfl
theorem rl_L_holds_24 : (am_pg z_L_holds).2 24 = some (.getfield 95, 27, 6, 0, 0, 24, 0, []) := (congrFun pm_L_holds 24).trans rfl
theorem rl_L_holds_27 : (am_pg z_L_holds).2 27 = some (.invokevirtual 245, 30, 210, 1, 0, 100, 0, []) := (congrFun pm_L_holds 27).trans rfl
theorem rl_L_holds_30 : (am_pg z_L_holds).2 30 = some (.aload_n 0, 31, 0, 0, 0, 0, 0, []) := (congrFun pm_L_holds 30).trans rfl
theorem rl_L_holds_31 : (am_pg z_L_holds).2 31 = some (.getfield 56, 34, 8, 6, 0, 73, 0, []) := (congrFun pm_L_holds 31).trans rfl
theorem rl_L_holds_34 : (am_pg z_L_holds).2 34 = some (.iload_n 1, 35, 1, 0, 0, 0, 0, []) := (congrFun pm_L_holds 34).trans rfl
theorem rl_L_holds_35 : (am_pg z_L_holds).2 35 = some (.iload_n 2, 36, 2, 0, 0, 0, 0, []) := (congrFun pm_L_holds 35).trans rfl
theorem rl_L_holds_36 : (am_pg z_L_holds).2 36 = some (.invokevirtual 302, 39, 215, 2, 0, 139, 0, []) := (congrFun pm_L_holds 36).trans rfl
theorem rl_L_holds_39 : (am_pg z_L_holds).2 39 = some (.ireturn, 40, 0, 0, 0, 0, 0, []) := (congrFun pm_L_holds 39).trans rfl
theorem rl_L_answers_0 : (am_pg z_L_answers).2 0 = some (.iload_n 1, 1, 1, 0, 0, 0, 0, []) := (congrFun pm_L_answers 0).trans rfl
theorem rl_L_answers_1 : (am_pg z_L_answers).2 1 = some (.iload_n 2, 2, 2, 0, 0, 0, 0, []) := (congrFun pm_L_answers 1).trans rfl
theorem rl_L_answers_2 : (am_pg z_L_answers).2 2 = some (.invokestatic 205, 5, 71, 2, 0, 75, 0, []) := (congrFun pm_L_answers 2).trans rfl
theorem rl_L_answers_5 : (am_pg z_L_answers).2 5 = some (.ifCond .eq (10), 8, 15, 0, 0, 0, 0, []) := (congrFun pm_L_answers 5).trans rfl
theorem rl_L_answers_8 : (am_pg z_L_answers).2 8 = some (.iload_n 3, 9, 3, 0, 0, 0, 0, []) := (congrFun pm_L_answers 8).trans rfl
theorem rl_L_answers_9 : (am_pg z_L_answers).2 9 = some (.invokestatic 190, 12, 68, 1, 0, 70, 0, []) := (congrFun pm_L_answers 9).trans rfl
theorem rl_L_answers_12 : (am_pg z_L_answers).2 12 = some (.ifCond .ne (5), 15, 17, 0, 0, 0, 0, []) := (congrFun pm_L_answers 12).trans rfl
theorem rl_L_answers_15 : (am_pg z_L_answers).2 15 = some (.iconst (-1), 16, 0, 0, 0, 0, -1, []) := (congrFun pm_L_answers 15).trans rfl
theorem rl_L_answers_16 : (am_pg z_L_answers).2 16 = some (.ireturn, 17, 0, 0, 0, 0, 0, []) := (congrFun pm_L_answers 16).trans rfl
theorem rl_L_answers_17 : (am_pg z_L_answers).2 17 = some (.aload_n 0, 18, 0, 0, 0, 0, 0, []) := (congrFun pm_L_answers 17).trans rfl
theorem rl_L_answers_18 : (am_pg z_L_answers).2 18 = some (.getfield 56, 21, 8, 6, 0, 73, 0, []) := (congrFun pm_L_answers 18).trans rfl
theorem rl_L_answers_21 : (am_pg z_L_answers).2 21 = some (.aload_n 0, 22, 0, 0, 0, 0, 0, []) := (congrFun pm_L_answers 21).trans rfl
theorem rl_L_answers_22 : (am_pg z_L_answers).2 22 = some (.getfield 10, 25, 8, 0, 0, 67, 0, []) := (congrFun pm_L_answers 22).trans rfl
theorem rl_L_answers_25 : (am_pg z_L_answers).2 25 = some (.getfield 95, 28, 6, 0, 0, 24, 0, []) := (congrFun pm_L_answers 25).trans rfl
theorem rl_L_answers_28 : (am_pg z_L_answers).2 28 = some (.invokevirtual 245, 31, 210, 1, 0, 100, 0, []) := (congrFun pm_L_answers 28).trans rfl
theorem rl_L_answers_31 : (am_pg z_L_answers).2 31 = some (.aload_n 0, 32, 0, 0, 0, 0, 0, []) := (congrFun pm_L_answers 31).trans rfl
theorem rl_L_answers_32 : (am_pg z_L_answers).2 32 = some (.getfield 56, 35, 8, 6, 0, 73, 0, []) := (congrFun pm_L_answers 32).trans rfl
theorem rl_L_answers_35 : (am_pg z_L_answers).2 35 = some (.iload_n 1, 36, 1, 0, 0, 0, 0, []) := (congrFun pm_L_answers 35).trans rfl
theorem rl_L_answers_36 : (am_pg z_L_answers).2 36 = some (.iload_n 2, 37, 2, 0, 0, 0, 0, []) := (congrFun pm_L_answers 36).trans rfl
theorem rl_L_answers_37 : (am_pg z_L_answers).2 37 = some (.iload_n 3, 38, 3, 0, 0, 0, 0, []) := (congrFun pm_L_answers 37).trans rfl
theorem rl_L_answers_38 : (am_pg z_L_answers).2 38 = some (.invokevirtual 305, 41, 220, 3, 0, 141, 0, []) := (congrFun pm_L_answers 38).trans rfl
theorem rl_L_answers_41 : (am_pg z_L_answers).2 41 = some (.ireturn, 42, 0, 0, 0, 0, 0, []) := (congrFun pm_L_answers 41).trans rfl
theorem rl_L_by_0 : (am_pg z_L_by).2 0 = some (.iload_n 1, 1, 1, 0, 0, 0, 0, []) := (congrFun pm_L_by 0).trans rfl
theorem rl_L_by_1 : (am_pg z_L_by).2 1 = some (.iload_n 2, 2, 2, 0, 0, 0, 0, []) := (congrFun pm_L_by 1).trans rfl
theorem rl_L_by_2 : (am_pg z_L_by).2 2 = some (.invokestatic 205, 5, 71, 2, 0, 75, 0, []) := (congrFun pm_L_by 2).trans rfl
theorem rl_L_by_5 : (am_pg z_L_by).2 5 = some (.ifCond .eq (10), 8, 15, 0, 0, 0, 0, []) := (congrFun pm_L_by 5).trans rfl
theorem rl_L_by_8 : (am_pg z_L_by).2 8 = some (.iload_n 3, 9, 3, 0, 0, 0, 0, []) := (congrFun pm_L_by 8).trans rfl
theorem rl_L_by_9 : (am_pg z_L_by).2 9 = some (.invokestatic 190, 12, 68, 1, 0, 70, 0, []) := (congrFun pm_L_by 9).trans rfl
theorem rl_L_by_12 : (am_pg z_L_by).2 12 = some (.ifCond .ne (5), 15, 17, 0, 0, 0, 0, []) := (congrFun pm_L_by 12).trans rfl
theorem rl_L_by_15 : (am_pg z_L_by).2 15 = some (.iconst (-1), 16, 0, 0, 0, 0, -1, []) := (congrFun pm_L_by 15).trans rfl
theorem rl_L_by_16 : (am_pg z_L_by).2 16 = some (.ireturn, 17, 0, 0, 0, 0, 0, []) := (congrFun pm_L_by 16).trans rfl
theorem rl_L_by_17 : (am_pg z_L_by).2 17 = some (.aload_n 0, 18, 0, 0, 0, 0, 0, []) := (congrFun pm_L_by 17).trans rfl
theorem rl_L_by_18 : (am_pg z_L_by).2 18 = some (.getfield 56, 21, 8, 6, 0, 73, 0, []) := (congrFun pm_L_by 18).trans rfl
theorem rl_L_by_21 : (am_pg z_L_by).2 21 = some (.aload_n 0, 22, 0, 0, 0, 0, 0, []) := (congrFun pm_L_by 21).trans rfl
theorem rl_L_by_22 : (am_pg z_L_by).2 22 = some (.getfield 10, 25, 8, 0, 0, 67, 0, []) := (congrFun pm_L_by 22).trans rfl
theorem rl_L_by_25 : (am_pg z_L_by).2 25 = some (.getfield 95, 28, 6, 0, 0, 24, 0, []) := (congrFun pm_L_by 25).trans rfl
theorem rl_L_by_28 : (am_pg z_L_by).2 28 = some (.invokevirtual 245, 31, 210, 1, 0, 100, 0, []) := (congrFun pm_L_by 28).trans rfl
theorem rl_L_by_31 : (am_pg z_L_by).2 31 = some (.aload_n 0, 32, 0, 0, 0, 0, 0, []) := (congrFun pm_L_by 31).trans rfl
theorem rl_L_by_32 : (am_pg z_L_by).2 32 = some (.getfield 56, 35, 8, 6, 0, 73, 0, []) := (congrFun pm_L_by 32).trans rfl
theorem rl_L_by_35 : (am_pg z_L_by).2 35 = some (.iload_n 1, 36, 1, 0, 0, 0, 0, []) := (congrFun pm_L_by 35).trans rfl
theorem rl_L_by_36 : (am_pg z_L_by).2 36 = some (.iload_n 2, 37, 2, 0, 0, 0, 0, []) := (congrFun pm_L_by 36).trans rfl
theorem rl_L_by_37 : (am_pg z_L_by).2 37 = some (.iload_n 3, 38, 3, 0, 0, 0, 0, []) := (congrFun pm_L_by 37).trans rfl
theorem rl_L_by_38 : (am_pg z_L_by).2 38 = some (.invokevirtual 308, 41, 219, 3, 0, 143, 0, []) := (congrFun pm_L_by 38).trans rfl
theorem rl_L_by_41 : (am_pg z_L_by).2 41 = some (.ireturn, 42, 0, 0, 0, 0, 0, []) := (congrFun pm_L_by 41).trans rfl
theorem rl_L_lives_0 : (am_pg z_L_lives).2 0 = some (.iload_n 1, 1, 1, 0, 0, 0, 0, []) := (congrFun pm_L_lives 0).trans rfl
theorem rl_L_lives_1 : (am_pg z_L_lives).2 1 = some (.invokestatic 190, 4, 68, 1, 0, 70, 0, []) := (congrFun pm_L_lives 1).trans rfl
theorem rl_L_lives_4 : (am_pg z_L_lives).2 4 = some (.ifCond .ne (5), 7, 9, 0, 0, 0, 0, []) := (congrFun pm_L_lives 4).trans rfl
theorem rl_L_lives_7 : (am_pg z_L_lives).2 7 = some (.iconst (-1), 8, 0, 0, 0, 0, -1, []) := (congrFun pm_L_lives 7).trans rfl
theorem rl_L_lives_8 : (am_pg z_L_lives).2 8 = some (.ireturn, 9, 0, 0, 0, 0, 0, []) := (congrFun pm_L_lives 8).trans rfl
theorem rl_L_lives_9 : (am_pg z_L_lives).2 9 = some (.aload_n 0, 10, 0, 0, 0, 0, 0, []) := (congrFun pm_L_lives 9).trans rfl
theorem rl_L_lives_10 : (am_pg z_L_lives).2 10 = some (.getfield 56, 13, 8, 6, 0, 73, 0, []) := (congrFun pm_L_lives 10).trans rfl
theorem rl_L_lives_13 : (am_pg z_L_lives).2 13 = some (.aload_n 0, 14, 0, 0, 0, 0, 0, []) := (congrFun pm_L_lives 13).trans rfl
theorem rl_L_lives_14 : (am_pg z_L_lives).2 14 = some (.getfield 10, 17, 8, 0, 0, 67, 0, []) := (congrFun pm_L_lives 14).trans rfl
theorem rl_L_lives_17 : (am_pg z_L_lives).2 17 = some (.getfield 95, 20, 6, 0, 0, 24, 0, []) := (congrFun pm_L_lives 17).trans rfl
theorem rl_L_lives_20 : (am_pg z_L_lives).2 20 = some (.invokevirtual 245, 23, 210, 1, 0, 100, 0, []) := (congrFun pm_L_lives 20).trans rfl
theorem rl_L_lives_23 : (am_pg z_L_lives).2 23 = some (.aload_n 0, 24, 0, 0, 0, 0, 0, []) := (congrFun pm_L_lives 23).trans rfl
theorem rl_L_lives_24 : (am_pg z_L_lives).2 24 = some (.getfield 56, 27, 8, 6, 0, 73, 0, []) := (congrFun pm_L_lives 24).trans rfl
theorem rl_L_lives_27 : (am_pg z_L_lives).2 27 = some (.iload_n 1, 28, 1, 0, 0, 0, 0, []) := (congrFun pm_L_lives 27).trans rfl
theorem rl_L_lives_28 : (am_pg z_L_lives).2 28 = some (.invokevirtual 311, 31, 224, 1, 0, 145, 0, []) := (congrFun pm_L_lives 28).trans rfl
theorem rl_L_lives_31 : (am_pg z_L_lives).2 31 = some (.ireturn, 32, 0, 0, 0, 0, 0, []) := (congrFun pm_L_lives 31).trans rfl
theorem rl_L_pairs_0 : (am_pg z_L_pairs).2 0 = some (.iload_n 1, 1, 1, 0, 0, 0, 0, []) := (congrFun pm_L_pairs 0).trans rfl
theorem rl_L_pairs_1 : (am_pg z_L_pairs).2 1 = some (.invokestatic 190, 4, 68, 1, 0, 70, 0, []) := (congrFun pm_L_pairs 1).trans rfl
theorem rl_L_pairs_4 : (am_pg z_L_pairs).2 4 = some (.ifCond .eq (12), 7, 16, 0, 0, 0, 0, []) := (congrFun pm_L_pairs 4).trans rfl
theorem rl_L_pairs_7 : (am_pg z_L_pairs).2 7 = some (.iload_n 2, 8, 2, 0, 0, 0, 0, []) := (congrFun pm_L_pairs 7).trans rfl
theorem rl_L_pairs_8 : (am_pg z_L_pairs).2 8 = some (.iconst (0), 9, 0, 0, 0, 0, 0, []) := (congrFun pm_L_pairs 8).trans rfl
theorem rl_L_pairs_9 : (am_pg z_L_pairs).2 9 = some (.iconst (2), 10, 0, 0, 0, 0, 2, []) := (congrFun pm_L_pairs 9).trans rfl
theorem rl_L_pairs_10 : (am_pg z_L_pairs).2 10 = some (.invokestatic 133, 13, 65, 3, 0, 16, 0, []) := (congrFun pm_L_pairs 10).trans rfl
theorem rl_L_pairs_13 : (am_pg z_L_pairs).2 13 = some (.ifCond .ne (5), 16, 18, 0, 0, 0, 0, []) := (congrFun pm_L_pairs 13).trans rfl
theorem rl_L_pairs_16 : (am_pg z_L_pairs).2 16 = some (.iconst (-1), 17, 0, 0, 0, 0, -1, []) := (congrFun pm_L_pairs 16).trans rfl
theorem rl_L_pairs_17 : (am_pg z_L_pairs).2 17 = some (.ireturn, 18, 0, 0, 0, 0, 0, []) := (congrFun pm_L_pairs 17).trans rfl
theorem rl_L_pairs_18 : (am_pg z_L_pairs).2 18 = some (.aload_n 0, 19, 0, 0, 0, 0, 0, []) := (congrFun pm_L_pairs 18).trans rfl
theorem rl_L_pairs_19 : (am_pg z_L_pairs).2 19 = some (.getfield 56, 22, 8, 6, 0, 73, 0, []) := (congrFun pm_L_pairs 19).trans rfl
theorem rl_L_pairs_22 : (am_pg z_L_pairs).2 22 = some (.aload_n 0, 23, 0, 0, 0, 0, 0, []) := (congrFun pm_L_pairs 22).trans rfl
theorem rl_L_pairs_23 : (am_pg z_L_pairs).2 23 = some (.getfield 10, 26, 8, 0, 0, 67, 0, []) := (congrFun pm_L_pairs 23).trans rfl
theorem rl_L_pairs_26 : (am_pg z_L_pairs).2 26 = some (.getfield 95, 29, 6, 0, 0, 24, 0, []) := (congrFun pm_L_pairs 26).trans rfl
theorem rl_L_pairs_29 : (am_pg z_L_pairs).2 29 = some (.invokevirtual 245, 32, 210, 1, 0, 100, 0, []) := (congrFun pm_L_pairs 29).trans rfl
theorem rl_L_pairs_32 : (am_pg z_L_pairs).2 32 = some (.aload_n 0, 33, 0, 0, 0, 0, 0, []) := (congrFun pm_L_pairs 32).trans rfl
theorem rl_L_pairs_33 : (am_pg z_L_pairs).2 33 = some (.getfield 56, 36, 8, 6, 0, 73, 0, []) := (congrFun pm_L_pairs 33).trans rfl
theorem rl_L_pairs_36 : (am_pg z_L_pairs).2 36 = some (.iload_n 1, 37, 1, 0, 0, 0, 0, []) := (congrFun pm_L_pairs 36).trans rfl
theorem rl_L_pairs_37 : (am_pg z_L_pairs).2 37 = some (.invokevirtual 282, 40, 217, 1, 0, 124, 0, []) := (congrFun pm_L_pairs 37).trans rfl
theorem rl_L_pairs_40 : (am_pg z_L_pairs).2 40 = some (.istore_n 3, 41, 3, 0, 0, 0, 0, []) := (congrFun pm_L_pairs 40).trans rfl
theorem rl_L_pairs_41 : (am_pg z_L_pairs).2 41 = some (.iconst (0), 42, 0, 0, 0, 0, 0, []) := (congrFun pm_L_pairs 41).trans rfl
theorem rl_L_pairs_42 : (am_pg z_L_pairs).2 42 = some (.istore 4, 44, 4, 0, 0, 0, 0, []) := (congrFun pm_L_pairs 42).trans rfl
theorem rl_L_pairs_44 : (am_pg z_L_pairs).2 44 = some (.iconst (0), 45, 0, 0, 0, 0, 0, []) := (congrFun pm_L_pairs 44).trans rfl
theorem rl_L_pairs_45 : (am_pg z_L_pairs).2 45 = some (.istore 5, 47, 5, 0, 0, 0, 0, []) := (congrFun pm_L_pairs 45).trans rfl
theorem rl_L_pairs_47 : (am_pg z_L_pairs).2 47 = some (.iload 5, 49, 5, 0, 0, 0, 0, []) := (congrFun pm_L_pairs 47).trans rfl
theorem rl_L_pairs_49 : (am_pg z_L_pairs).2 49 = some (.bipush (6), 51, 0, 0, 0, 0, 6, []) := (congrFun pm_L_pairs 49).trans rfl
theorem rl_L_pairs_51 : (am_pg z_L_pairs).2 51 = some (.if_icmp .ge (65), 54, 116, 0, 0, 0, 0, []) := (congrFun pm_L_pairs 51).trans rfl
theorem rl_L_pairs_54 : (am_pg z_L_pairs).2 54 = some (.iload 5, 56, 5, 0, 0, 0, 0, []) := (congrFun pm_L_pairs 54).trans rfl
theorem rl_L_pairs_56 : (am_pg z_L_pairs).2 56 = some (.iconst (1), 57, 0, 0, 0, 0, 1, []) := (congrFun pm_L_pairs 56).trans rfl
theorem rl_L_pairs_57 : (am_pg z_L_pairs).2 57 = some (.iadd, 58, 0, 0, 0, 0, 0, []) := (congrFun pm_L_pairs 57).trans rfl
theorem rl_L_pairs_58 : (am_pg z_L_pairs).2 58 = some (.istore 6, 60, 6, 0, 0, 0, 0, []) := (congrFun pm_L_pairs 58).trans rfl
theorem rl_L_pairs_60 : (am_pg z_L_pairs).2 60 = some (.iload 6, 62, 6, 0, 0, 0, 0, []) := (congrFun pm_L_pairs 60).trans rfl
theorem rl_L_pairs_62 : (am_pg z_L_pairs).2 62 = some (.bipush (6), 64, 0, 0, 0, 0, 6, []) := (congrFun pm_L_pairs 62).trans rfl
theorem rl_L_pairs_64 : (am_pg z_L_pairs).2 64 = some (.if_icmp .ge (46), 67, 110, 0, 0, 0, 0, []) := (congrFun pm_L_pairs 64).trans rfl
theorem rl_L_pairs_67 : (am_pg z_L_pairs).2 67 = some (.iload_n 3, 68, 3, 0, 0, 0, 0, []) := (congrFun pm_L_pairs 67).trans rfl
theorem rl_L_pairs_68 : (am_pg z_L_pairs).2 68 = some (.iload 5, 70, 5, 0, 0, 0, 0, []) := (congrFun pm_L_pairs 68).trans rfl
theorem rl_L_pairs_70 : (am_pg z_L_pairs).2 70 = some (.invokestatic 285, 73, 74, 2, 0, 125, 0, []) := (congrFun pm_L_pairs 70).trans rfl
theorem rl_L_pairs_73 : (am_pg z_L_pairs).2 73 = some (.ifCond .eq (31), 76, 104, 0, 0, 0, 0, []) := (congrFun pm_L_pairs 73).trans rfl
theorem rl_L_pairs_76 : (am_pg z_L_pairs).2 76 = some (.iload_n 3, 77, 3, 0, 0, 0, 0, []) := (congrFun pm_L_pairs 76).trans rfl
theorem rl_L_pairs_77 : (am_pg z_L_pairs).2 77 = some (.iload 6, 79, 6, 0, 0, 0, 0, []) := (congrFun pm_L_pairs 77).trans rfl
theorem rl_L_pairs_79 : (am_pg z_L_pairs).2 79 = some (.invokestatic 285, 82, 74, 2, 0, 125, 0, []) := (congrFun pm_L_pairs 79).trans rfl
theorem rl_L_pairs_82 : (am_pg z_L_pairs).2 82 = some (.ifCond .eq (22), 85, 104, 0, 0, 0, 0, []) := (congrFun pm_L_pairs 82).trans rfl
theorem rl_L_pairs_85 : (am_pg z_L_pairs).2 85 = some (.aload_n 0, 86, 0, 0, 0, 0, 0, []) := (congrFun pm_L_pairs 85).trans rfl
theorem rl_L_pairs_86 : (am_pg z_L_pairs).2 86 = some (.getfield 56, 89, 8, 6, 0, 73, 0, []) := (congrFun pm_L_pairs 86).trans rfl
theorem rl_L_pairs_89 : (am_pg z_L_pairs).2 89 = some (.iload 5, 91, 5, 0, 0, 0, 0, []) := (congrFun pm_L_pairs 89).trans rfl
theorem rl_L_pairs_91 : (am_pg z_L_pairs).2 91 = some (.iload 6, 93, 6, 0, 0, 0, 0, []) := (congrFun pm_L_pairs 91).trans rfl
theorem rl_L_pairs_93 : (am_pg z_L_pairs).2 93 = some (.iload_n 1, 94, 1, 0, 0, 0, 0, []) := (congrFun pm_L_pairs 93).trans rfl
theorem rl_L_pairs_94 : (am_pg z_L_pairs).2 94 = some (.iload_n 2, 95, 2, 0, 0, 0, 0, []) := (congrFun pm_L_pairs 94).trans rfl
theorem rl_L_pairs_95 : (am_pg z_L_pairs).2 95 = some (.invokevirtual 314, 98, 222, 4, 0, 150, 0, []) := (congrFun pm_L_pairs 95).trans rfl
theorem rl_L_pairs_98 : (am_pg z_L_pairs).2 98 = some (.ifCond .eq (6), 101, 104, 0, 0, 0, 0, []) := (congrFun pm_L_pairs 98).trans rfl
theorem rl_L_pairs_101 : (am_pg z_L_pairs).2 101 = some (.iinc 4 (1), 104, 4, 0, 0, 0, 1, []) := (congrFun pm_L_pairs 101).trans rfl
theorem rl_L_pairs_104 : (am_pg z_L_pairs).2 104 = some (.iinc 6 (1), 107, 6, 0, 0, 0, 1, []) := (congrFun pm_L_pairs 104).trans rfl
theorem rl_L_pairs_107 : (am_pg z_L_pairs).2 107 = some (.goto (-47), 110, 60, 0, 0, 0, 0, []) := (congrFun pm_L_pairs 107).trans rfl
theorem rl_L_pairs_110 : (am_pg z_L_pairs).2 110 = some (.iinc 5 (1), 113, 5, 0, 0, 0, 1, []) := (congrFun pm_L_pairs 110).trans rfl
theorem rl_L_pairs_113 : (am_pg z_L_pairs).2 113 = some (.goto (-66), 116, 47, 0, 0, 0, 0, []) := (congrFun pm_L_pairs 113).trans rfl
theorem rl_L_pairs_116 : (am_pg z_L_pairs).2 116 = some (.iload 4, 118, 4, 0, 0, 0, 0, []) := (congrFun pm_L_pairs 116).trans rfl
theorem rl_L_pairs_118 : (am_pg z_L_pairs).2 118 = some (.ireturn, 119, 0, 0, 0, 0, 0, []) := (congrFun pm_L_pairs 118).trans rfl
theorem rl_L_split_0 : (am_pg z_L_split).2 0 = some (.iload_n 1, 1, 1, 0, 0, 0, 0, []) := (congrFun pm_L_split 0).trans rfl
theorem rl_L_split_1 : (am_pg z_L_split).2 1 = some (.invokestatic 113, 4, 69, 1, 0, 37, 0, []) := (congrFun pm_L_split 1).trans rfl
theorem rl_L_split_4 : (am_pg z_L_split).2 4 = some (.ifCond .eq (19), 7, 23, 0, 0, 0, 0, []) := (congrFun pm_L_split 4).trans rfl
theorem rl_L_split_7 : (am_pg z_L_split).2 7 = some (.iload_n 2, 8, 2, 0, 0, 0, 0, []) := (congrFun pm_L_split 7).trans rfl
theorem rl_L_split_8 : (am_pg z_L_split).2 8 = some (.invokestatic 190, 11, 68, 1, 0, 70, 0, []) := (congrFun pm_L_split 8).trans rfl
theorem rl_L_split_11 : (am_pg z_L_split).2 11 = some (.ifCond .eq (12), 14, 23, 0, 0, 0, 0, []) := (congrFun pm_L_split 11).trans rfl
theorem rl_L_split_14 : (am_pg z_L_split).2 14 = some (.iload_n 3, 15, 3, 0, 0, 0, 0, []) := (congrFun pm_L_split 14).trans rfl
theorem rl_L_split_15 : (am_pg z_L_split).2 15 = some (.iconst (0), 16, 0, 0, 0, 0, 0, []) := (congrFun pm_L_split 15).trans rfl
theorem rl_L_split_16 : (am_pg z_L_split).2 16 = some (.iconst (2), 17, 0, 0, 0, 0, 2, []) := (congrFun pm_L_split 16).trans rfl
theorem rl_L_split_17 : (am_pg z_L_split).2 17 = some (.invokestatic 133, 20, 65, 3, 0, 16, 0, []) := (congrFun pm_L_split 17).trans rfl
theorem rl_L_split_20 : (am_pg z_L_split).2 20 = some (.ifCond .ne (5), 23, 25, 0, 0, 0, 0, []) := (congrFun pm_L_split 20).trans rfl
theorem rl_L_split_23 : (am_pg z_L_split).2 23 = some (.iconst (-1), 24, 0, 0, 0, 0, -1, []) := (congrFun pm_L_split 23).trans rfl
theorem rl_L_split_24 : (am_pg z_L_split).2 24 = some (.ireturn, 25, 0, 0, 0, 0, 0, []) := (congrFun pm_L_split 24).trans rfl
theorem rl_L_split_25 : (am_pg z_L_split).2 25 = some (.aload_n 0, 26, 0, 0, 0, 0, 0, []) := (congrFun pm_L_split 25).trans rfl
theorem rl_L_split_26 : (am_pg z_L_split).2 26 = some (.getfield 56, 29, 8, 6, 0, 73, 0, []) := (congrFun pm_L_split 26).trans rfl
theorem rl_L_split_29 : (am_pg z_L_split).2 29 = some (.aload_n 0, 30, 0, 0, 0, 0, 0, []) := (congrFun pm_L_split 29).trans rfl
theorem rl_L_split_30 : (am_pg z_L_split).2 30 = some (.getfield 10, 33, 8, 0, 0, 67, 0, []) := (congrFun pm_L_split 30).trans rfl
theorem rl_L_split_33 : (am_pg z_L_split).2 33 = some (.getfield 95, 36, 6, 0, 0, 24, 0, []) := (congrFun pm_L_split 33).trans rfl
theorem rl_L_split_36 : (am_pg z_L_split).2 36 = some (.invokevirtual 245, 39, 210, 1, 0, 100, 0, []) := (congrFun pm_L_split 36).trans rfl
theorem rl_L_split_39 : (am_pg z_L_split).2 39 = some (.aload_n 0, 40, 0, 0, 0, 0, 0, []) := (congrFun pm_L_split 39).trans rfl
theorem rl_L_split_40 : (am_pg z_L_split).2 40 = some (.getfield 56, 43, 8, 6, 0, 73, 0, []) := (congrFun pm_L_split 40).trans rfl
theorem rl_L_split_43 : (am_pg z_L_split).2 43 = some (.iload_n 1, 44, 1, 0, 0, 0, 0, []) := (congrFun pm_L_split 43).trans rfl
theorem rl_L_split_44 : (am_pg z_L_split).2 44 = some (.iload_n 2, 45, 2, 0, 0, 0, 0, []) := (congrFun pm_L_split 44).trans rfl
theorem rl_L_split_45 : (am_pg z_L_split).2 45 = some (.invokevirtual 279, 48, 216, 2, 0, 119, 0, []) := (congrFun pm_L_split 45).trans rfl
theorem rl_L_split_48 : (am_pg z_L_split).2 48 = some (.ifCond .ne (6), 51, 54, 0, 0, 0, 0, []) := (congrFun pm_L_split 48).trans rfl
theorem rl_L_split_51 : (am_pg z_L_split).2 51 = some (.bipush (-2), 53, 0, 0, 0, 0, -2, []) := (congrFun pm_L_split 51).trans rfl
theorem rl_L_split_53 : (am_pg z_L_split).2 53 = some (.ireturn, 54, 0, 0, 0, 0, 0, []) := (congrFun pm_L_split 53).trans rfl
theorem rl_L_split_54 : (am_pg z_L_split).2 54 = some (.aload_n 0, 55, 0, 0, 0, 0, 0, []) := (congrFun pm_L_split 54).trans rfl
theorem rl_L_split_55 : (am_pg z_L_split).2 55 = some (.getfield 56, 58, 8, 6, 0, 73, 0, []) := (congrFun pm_L_split 55).trans rfl
theorem rl_L_split_58 : (am_pg z_L_split).2 58 = some (.iload_n 1, 59, 1, 0, 0, 0, 0, []) := (congrFun pm_L_split 58).trans rfl
theorem rl_L_split_59 : (am_pg z_L_split).2 59 = some (.iload_n 2, 60, 2, 0, 0, 0, 0, []) := (congrFun pm_L_split 59).trans rfl
theorem rl_L_split_60 : (am_pg z_L_split).2 60 = some (.aload_n 0, 61, 0, 0, 0, 0, 0, []) := (congrFun pm_L_split 60).trans rfl
theorem rl_L_split_61 : (am_pg z_L_split).2 61 = some (.getfield 10, 64, 8, 0, 0, 67, 0, []) := (congrFun pm_L_split 61).trans rfl
theorem rl_L_split_64 : (am_pg z_L_split).2 64 = some (.getfield 95, 67, 6, 0, 0, 24, 0, []) := (congrFun pm_L_split 64).trans rfl
theorem rl_L_split_67 : (am_pg z_L_split).2 67 = some (.invokevirtual 318, 70, 229, 3, 0, 152, 0, []) := (congrFun pm_L_split 67).trans rfl
theorem rl_L_split_70 : (am_pg z_L_split).2 70 = some (.istore 4, 72, 4, 0, 0, 0, 0, []) := (congrFun pm_L_split 70).trans rfl
theorem rl_L_split_72 : (am_pg z_L_split).2 72 = some (.aload_n 0, 73, 0, 0, 0, 0, 0, []) := (congrFun pm_L_split 72).trans rfl
theorem rl_L_split_73 : (am_pg z_L_split).2 73 = some (.getfield 56, 76, 8, 6, 0, 73, 0, []) := (congrFun pm_L_split 73).trans rfl
theorem rl_L_split_76 : (am_pg z_L_split).2 76 = some (.iload_n 1, 77, 1, 0, 0, 0, 0, []) := (congrFun pm_L_split 76).trans rfl
theorem rl_L_split_77 : (am_pg z_L_split).2 77 = some (.iload_n 2, 78, 2, 0, 0, 0, 0, []) := (congrFun pm_L_split 77).trans rfl
theorem rl_L_split_78 : (am_pg z_L_split).2 78 = some (.aload_n 0, 79, 0, 0, 0, 0, 0, []) := (congrFun pm_L_split 78).trans rfl
theorem rl_L_split_79 : (am_pg z_L_split).2 79 = some (.getfield 10, 82, 8, 0, 0, 67, 0, []) := (congrFun pm_L_split 79).trans rfl
theorem rl_L_split_82 : (am_pg z_L_split).2 82 = some (.getfield 95, 85, 6, 0, 0, 24, 0, []) := (congrFun pm_L_split 82).trans rfl
theorem rl_L_split_85 : (am_pg z_L_split).2 85 = some (.invokevirtual 322, 88, 230, 3, 0, 159, 0, []) := (congrFun pm_L_split 85).trans rfl
theorem rl_L_split_88 : (am_pg z_L_split).2 88 = some (.istore 5, 90, 5, 0, 0, 0, 0, []) := (congrFun pm_L_split 88).trans rfl
theorem rl_L_split_90 : (am_pg z_L_split).2 90 = some (.iload_n 3, 91, 3, 0, 0, 0, 0, []) := (congrFun pm_L_split 90).trans rfl
theorem rl_L_split_91 : (am_pg z_L_split).2 91 = some (.iconst (2), 92, 0, 0, 0, 0, 2, []) := (congrFun pm_L_split 91).trans rfl
theorem rl_L_split_92 : (am_pg z_L_split).2 92 = some (.if_icmp .ne (19), 95, 111, 0, 0, 0, 0, []) := (congrFun pm_L_split 92).trans rfl
theorem rl_L_split_95 : (am_pg z_L_split).2 95 = some (.aload_n 0, 96, 0, 0, 0, 0, 0, []) := (congrFun pm_L_split 95).trans rfl
theorem rl_L_split_96 : (am_pg z_L_split).2 96 = some (.getfield 10, 99, 8, 0, 0, 67, 0, []) := (congrFun pm_L_split 96).trans rfl
theorem rl_L_split_99 : (am_pg z_L_split).2 99 = some (.getfield 95, 102, 6, 0, 0, 24, 0, []) := (congrFun pm_L_split 99).trans rfl
theorem rl_L_split_102 : (am_pg z_L_split).2 102 = some (.iload_n 1, 103, 1, 0, 0, 0, 0, []) := (congrFun pm_L_split 102).trans rfl
theorem rl_L_split_103 : (am_pg z_L_split).2 103 = some (.iload 4, 105, 4, 0, 0, 0, 0, []) := (congrFun pm_L_split 103).trans rfl
theorem rl_L_split_105 : (am_pg z_L_split).2 105 = some (.iload 5, 107, 5, 0, 0, 0, 0, []) := (congrFun pm_L_split 105).trans rfl
theorem rl_L_split_107 : (am_pg z_L_split).2 107 = some (.invokevirtual 224, 110, 241, 3, 1, 83, 0, []) := (congrFun pm_L_split 107).trans rfl
theorem rl_L_split_110 : (am_pg z_L_split).2 110 = some (.ireturn, 111, 0, 0, 0, 0, 0, []) := (congrFun pm_L_split 110).trans rfl
theorem rl_L_split_111 : (am_pg z_L_split).2 111 = some (.iload_n 3, 112, 3, 0, 0, 0, 0, []) := (congrFun pm_L_split 111).trans rfl
theorem rl_L_split_112 : (am_pg z_L_split).2 112 = some (.ifCond .ne (8), 115, 120, 0, 0, 0, 0, []) := (congrFun pm_L_split 112).trans rfl
theorem rl_L_split_115 : (am_pg z_L_split).2 115 = some (.iload 4, 117, 4, 0, 0, 0, 0, []) := (congrFun pm_L_split 115).trans rfl
theorem rl_L_split_117 : (am_pg z_L_split).2 117 = some (.goto (5), 120, 122, 0, 0, 0, 0, []) := (congrFun pm_L_split 117).trans rfl
theorem rl_L_split_120 : (am_pg z_L_split).2 120 = some (.iload 5, 122, 5, 0, 0, 0, 0, []) := (congrFun pm_L_split 120).trans rfl
theorem rl_L_split_122 : (am_pg z_L_split).2 122 = some (.ireturn, 123, 0, 0, 0, 0, 0, []) := (congrFun pm_L_split 122).trans rfl
theorem rl_L_owed_0 : (am_pg z_L_owed).2 0 = some (.iload_n 1, 1, 1, 0, 0, 0, 0, []) := (congrFun pm_L_owed 0).trans rfl
theorem rl_L_owed_1 : (am_pg z_L_owed).2 1 = some (.invokestatic 190, 4, 68, 1, 0, 70, 0, []) := (congrFun pm_L_owed 1).trans rfl
theorem rl_L_owed_4 : (am_pg z_L_owed).2 4 = some (.ifCond .ne (5), 7, 9, 0, 0, 0, 0, []) := (congrFun pm_L_owed 4).trans rfl
theorem rl_L_owed_7 : (am_pg z_L_owed).2 7 = some (.iconst (-1), 8, 0, 0, 0, 0, -1, []) := (congrFun pm_L_owed 7).trans rfl
theorem rl_L_owed_8 : (am_pg z_L_owed).2 8 = some (.ireturn, 9, 0, 0, 0, 0, 0, []) := (congrFun pm_L_owed 8).trans rfl
theorem rl_L_owed_9 : (am_pg z_L_owed).2 9 = some (.aload_n 0, 10, 0, 0, 0, 0, 0, []) := (congrFun pm_L_owed 9).trans rfl
theorem rl_L_owed_10 : (am_pg z_L_owed).2 10 = some (.getfield 56, 13, 8, 6, 0, 73, 0, []) := (congrFun pm_L_owed 10).trans rfl
theorem rl_L_owed_13 : (am_pg z_L_owed).2 13 = some (.aload_n 0, 14, 0, 0, 0, 0, 0, []) := (congrFun pm_L_owed 13).trans rfl
theorem rl_L_owed_14 : (am_pg z_L_owed).2 14 = some (.getfield 10, 17, 8, 0, 0, 67, 0, []) := (congrFun pm_L_owed 14).trans rfl
theorem rl_L_owed_17 : (am_pg z_L_owed).2 17 = some (.getfield 95, 20, 6, 0, 0, 24, 0, []) := (congrFun pm_L_owed 17).trans rfl
theorem rl_L_owed_20 : (am_pg z_L_owed).2 20 = some (.invokevirtual 245, 23, 210, 1, 0, 100, 0, []) := (congrFun pm_L_owed 20).trans rfl
theorem rl_L_owed_23 : (am_pg z_L_owed).2 23 = some (.aload_n 0, 24, 0, 0, 0, 0, 0, []) := (congrFun pm_L_owed 23).trans rfl
theorem rl_L_owed_24 : (am_pg z_L_owed).2 24 = some (.getfield 56, 27, 8, 6, 0, 73, 0, []) := (congrFun pm_L_owed 24).trans rfl
theorem rl_L_owed_27 : (am_pg z_L_owed).2 27 = some (.iload_n 1, 28, 1, 0, 0, 0, 0, []) := (congrFun pm_L_owed 27).trans rfl
theorem rl_L_owed_28 : (am_pg z_L_owed).2 28 = some (.aload_n 0, 29, 0, 0, 0, 0, 0, []) := (congrFun pm_L_owed 28).trans rfl
theorem rl_L_owed_29 : (am_pg z_L_owed).2 29 = some (.getfield 10, 32, 8, 0, 0, 67, 0, []) := (congrFun pm_L_owed 29).trans rfl
theorem rl_L_owed_32 : (am_pg z_L_owed).2 32 = some (.getfield 95, 35, 6, 0, 0, 24, 0, []) := (congrFun pm_L_owed 32).trans rfl
theorem rl_L_owed_35 : (am_pg z_L_owed).2 35 = some (.invokevirtual 325, 38, 232, 2, 0, 161, 0, []) := (congrFun pm_L_owed 35).trans rfl
theorem rl_L_owed_38 : (am_pg z_L_owed).2 38 = some (.ireturn, 39, 0, 0, 0, 0, 0, []) := (congrFun pm_L_owed 38).trans rfl
theorem rl_L_free_0 : (am_pg z_L_free).2 0 = some (.iload_n 1, 1, 1, 0, 0, 0, 0, []) := (congrFun pm_L_free 0).trans rfl
theorem rl_L_free_1 : (am_pg z_L_free).2 1 = some (.invokestatic 113, 4, 69, 1, 0, 37, 0, []) := (congrFun pm_L_free 1).trans rfl
theorem rl_L_free_4 : (am_pg z_L_free).2 4 = some (.ifCond .eq (21), 7, 25, 0, 0, 0, 0, []) := (congrFun pm_L_free 4).trans rfl
theorem rl_L_free_7 : (am_pg z_L_free).2 7 = some (.iload_n 2, 8, 2, 0, 0, 0, 0, []) := (congrFun pm_L_free 7).trans rfl
theorem rl_L_free_8 : (am_pg z_L_free).2 8 = some (.invokestatic 147, 11, 66, 1, 0, 34, 0, []) := (congrFun pm_L_free 8).trans rfl
theorem rl_L_free_11 : (am_pg z_L_free).2 11 = some (.ifCond .eq (14), 14, 25, 0, 0, 0, 0, []) := (congrFun pm_L_free 11).trans rfl
theorem rl_L_free_14 : (am_pg z_L_free).2 14 = some (.iload_n 3, 15, 3, 0, 0, 0, 0, []) := (congrFun pm_L_free 14).trans rfl
theorem rl_L_free_15 : (am_pg z_L_free).2 15 = some (.iconst (1), 16, 0, 0, 0, 0, 1, []) := (congrFun pm_L_free 15).trans rfl
theorem rl_L_free_16 : (am_pg z_L_free).2 16 = some (.sipush (360), 19, 0, 0, 0, 0, 360, []) := (congrFun pm_L_free 16).trans rfl
theorem rl_L_free_19 : (am_pg z_L_free).2 19 = some (.invokestatic 133, 22, 65, 3, 0, 16, 0, []) := (congrFun pm_L_free 19).trans rfl
theorem rl_L_free_22 : (am_pg z_L_free).2 22 = some (.ifCond .ne (5), 25, 27, 0, 0, 0, 0, []) := (congrFun pm_L_free 22).trans rfl
theorem rl_L_free_25 : (am_pg z_L_free).2 25 = some (.iconst (-1), 26, 0, 0, 0, 0, -1, []) := (congrFun pm_L_free 25).trans rfl
theorem rl_L_free_26 : (am_pg z_L_free).2 26 = some (.ireturn, 27, 0, 0, 0, 0, 0, []) := (congrFun pm_L_free 26).trans rfl
theorem rl_L_free_27 : (am_pg z_L_free).2 27 = some (.aload_n 0, 28, 0, 0, 0, 0, 0, []) := (congrFun pm_L_free 27).trans rfl
theorem rl_L_free_28 : (am_pg z_L_free).2 28 = some (.getfield 69, 31, 8, 7, 0, 74, 0, []) := (congrFun pm_L_free 28).trans rfl
theorem rl_L_free_31 : (am_pg z_L_free).2 31 = some (.aload_n 0, 32, 0, 0, 0, 0, 0, []) := (congrFun pm_L_free 31).trans rfl
theorem rl_L_free_32 : (am_pg z_L_free).2 32 = some (.getfield 10, 35, 8, 0, 0, 67, 0, []) := (congrFun pm_L_free 32).trans rfl
theorem rl_L_free_35 : (am_pg z_L_free).2 35 = some (.getfield 95, 38, 6, 0, 0, 24, 0, []) := (congrFun pm_L_free 35).trans rfl
theorem rl_L_free_38 : (am_pg z_L_free).2 38 = some (.iload_n 1, 39, 1, 0, 0, 0, 0, []) := (congrFun pm_L_free 38).trans rfl
theorem rl_L_free_39 : (am_pg z_L_free).2 39 = some (.invokevirtual 236, 42, 257, 2, 3, 91, 0, []) := (congrFun pm_L_free 39).trans rfl
theorem rl_L_free_42 : (am_pg z_L_free).2 42 = some (.aload_n 0, 43, 0, 0, 0, 0, 0, []) := (congrFun pm_L_free 42).trans rfl
theorem rl_L_free_43 : (am_pg z_L_free).2 43 = some (.getfield 69, 46, 8, 7, 0, 74, 0, []) := (congrFun pm_L_free 43).trans rfl
theorem rl_L_free_46 : (am_pg z_L_free).2 46 = some (.iload_n 2, 47, 2, 0, 0, 0, 0, []) := (congrFun pm_L_free 46).trans rfl
theorem rl_L_free_47 : (am_pg z_L_free).2 47 = some (.iload_n 2, 48, 2, 0, 0, 0, 0, []) := (congrFun pm_L_free 47).trans rfl
theorem rl_L_free_48 : (am_pg z_L_free).2 48 = some (.iload_n 3, 49, 3, 0, 0, 0, 0, []) := (congrFun pm_L_free 48).trans rfl
theorem rl_L_free_49 : (am_pg z_L_free).2 49 = some (.iadd, 50, 0, 0, 0, 0, 0, []) := (congrFun pm_L_free 49).trans rfl
theorem rl_L_free_50 : (am_pg z_L_free).2 50 = some (.sipush (1080), 53, 0, 0, 0, 0, 1080, []) := (congrFun pm_L_free 50).trans rfl
theorem rl_L_free_53 : (am_pg z_L_free).2 53 = some (.invokestatic 141, 56, 0, 2, 3, 2, 0, []) := (congrFun pm_L_free 53).trans rfl
theorem rl_L_free_56 : (am_pg z_L_free).2 56 = some (.invokevirtual 329, 59, 263, 2, 3, 168, 0, []) := (congrFun pm_L_free 56).trans rfl
theorem rl_L_free_59 : (am_pg z_L_free).2 59 = some (.ireturn, 60, 0, 0, 0, 0, 0, []) := (congrFun pm_L_free 59).trans rfl
theorem rl_L_mustLeave_0 : (am_pg z_L_mustLeave).2 0 = some (.iload_n 1, 1, 1, 0, 0, 0, 0, []) := (congrFun pm_L_mustLeave 0).trans rfl
theorem rl_L_mustLeave_1 : (am_pg z_L_mustLeave).2 1 = some (.invokestatic 113, 4, 69, 1, 0, 37, 0, []) := (congrFun pm_L_mustLeave 1).trans rfl
theorem rl_L_mustLeave_4 : (am_pg z_L_mustLeave).2 4 = some (.ifCond .eq (10), 7, 14, 0, 0, 0, 0, []) := (congrFun pm_L_mustLeave 4).trans rfl
theorem rl_L_mustLeave_7 : (am_pg z_L_mustLeave).2 7 = some (.iload_n 2, 8, 2, 0, 0, 0, 0, []) := (congrFun pm_L_mustLeave 7).trans rfl
theorem rl_L_mustLeave_8 : (am_pg z_L_mustLeave).2 8 = some (.invokestatic 147, 11, 66, 1, 0, 34, 0, []) := (congrFun pm_L_mustLeave 8).trans rfl
theorem rl_L_mustLeave_11 : (am_pg z_L_mustLeave).2 11 = some (.ifCond .ne (5), 14, 16, 0, 0, 0, 0, []) := (congrFun pm_L_mustLeave 11).trans rfl
theorem rl_L_mustLeave_14 : (am_pg z_L_mustLeave).2 14 = some (.iconst (-1), 15, 0, 0, 0, 0, -1, []) := (congrFun pm_L_mustLeave 14).trans rfl
theorem rl_L_mustLeave_15 : (am_pg z_L_mustLeave).2 15 = some (.ireturn, 16, 0, 0, 0, 0, 0, []) := (congrFun pm_L_mustLeave 15).trans rfl
theorem rl_L_mustLeave_16 : (am_pg z_L_mustLeave).2 16 = some (.aload_n 0, 17, 0, 0, 0, 0, 0, []) := (congrFun pm_L_mustLeave 16).trans rfl
theorem rl_L_mustLeave_17 : (am_pg z_L_mustLeave).2 17 = some (.getfield 69, 20, 8, 7, 0, 74, 0, []) := (congrFun pm_L_mustLeave 17).trans rfl
theorem rl_L_mustLeave_20 : (am_pg z_L_mustLeave).2 20 = some (.aload_n 0, 21, 0, 0, 0, 0, 0, []) := (congrFun pm_L_mustLeave 20).trans rfl
theorem rl_L_mustLeave_21 : (am_pg z_L_mustLeave).2 21 = some (.getfield 10, 24, 8, 0, 0, 67, 0, []) := (congrFun pm_L_mustLeave 21).trans rfl
theorem rl_L_mustLeave_24 : (am_pg z_L_mustLeave).2 24 = some (.getfield 95, 27, 6, 0, 0, 24, 0, []) := (congrFun pm_L_mustLeave 24).trans rfl
theorem rl_L_mustLeave_27 : (am_pg z_L_mustLeave).2 27 = some (.iload_n 1, 28, 1, 0, 0, 0, 0, []) := (congrFun pm_L_mustLeave 27).trans rfl
theorem rl_L_mustLeave_28 : (am_pg z_L_mustLeave).2 28 = some (.invokevirtual 236, 31, 257, 2, 3, 91, 0, []) := (congrFun pm_L_mustLeave 28).trans rfl
theorem rl_L_mustLeave_31 : (am_pg z_L_mustLeave).2 31 = some (.iload_n 2, 32, 2, 0, 0, 0, 0, []) := (congrFun pm_L_mustLeave 31).trans rfl
theorem rl_L_mustLeave_32 : (am_pg z_L_mustLeave).2 32 = some (.istore_n 3, 33, 3, 0, 0, 0, 0, []) := (congrFun pm_L_mustLeave 32).trans rfl
theorem rl_L_mustLeave_33 : (am_pg z_L_mustLeave).2 33 = some (.iload_n 3, 34, 3, 0, 0, 0, 0, []) := (congrFun pm_L_mustLeave 33).trans rfl
theorem rl_L_mustLeave_34 : (am_pg z_L_mustLeave).2 34 = some (.sipush (1080), 37, 0, 0, 0, 0, 1080, []) := (congrFun pm_L_mustLeave 34).trans rfl
theorem rl_L_mustLeave_37 : (am_pg z_L_mustLeave).2 37 = some (.if_icmp .ge (23), 40, 60, 0, 0, 0, 0, []) := (congrFun pm_L_mustLeave 37).trans rfl
theorem rl_L_mustLeave_40 : (am_pg z_L_mustLeave).2 40 = some (.aload_n 0, 41, 0, 0, 0, 0, 0, []) := (congrFun pm_L_mustLeave 40).trans rfl
theorem rl_L_mustLeave_41 : (am_pg z_L_mustLeave).2 41 = some (.getfield 69, 44, 8, 7, 0, 74, 0, []) := (congrFun pm_L_mustLeave 41).trans rfl
theorem rl_L_mustLeave_44 : (am_pg z_L_mustLeave).2 44 = some (.iload_n 2, 45, 2, 0, 0, 0, 0, []) := (congrFun pm_L_mustLeave 44).trans rfl
theorem rl_L_mustLeave_45 : (am_pg z_L_mustLeave).2 45 = some (.iload_n 3, 46, 3, 0, 0, 0, 0, []) := (congrFun pm_L_mustLeave 45).trans rfl
theorem rl_L_mustLeave_46 : (am_pg z_L_mustLeave).2 46 = some (.invokevirtual 332, 49, 262, 2, 3, 173, 0, []) := (congrFun pm_L_mustLeave 46).trans rfl
theorem rl_L_mustLeave_49 : (am_pg z_L_mustLeave).2 49 = some (.ifCond .eq (5), 52, 54, 0, 0, 0, 0, []) := (congrFun pm_L_mustLeave 49).trans rfl
theorem rl_L_mustLeave_52 : (am_pg z_L_mustLeave).2 52 = some (.iload_n 3, 53, 3, 0, 0, 0, 0, []) := (congrFun pm_L_mustLeave 52).trans rfl
theorem rl_L_mustLeave_53 : (am_pg z_L_mustLeave).2 53 = some (.ireturn, 54, 0, 0, 0, 0, 0, []) := (congrFun pm_L_mustLeave 53).trans rfl
theorem rl_L_mustLeave_54 : (am_pg z_L_mustLeave).2 54 = some (.iinc 3 (1), 57, 3, 0, 0, 0, 1, []) := (congrFun pm_L_mustLeave 54).trans rfl
theorem rl_L_mustLeave_57 : (am_pg z_L_mustLeave).2 57 = some (.goto (-24), 60, 33, 0, 0, 0, 0, []) := (congrFun pm_L_mustLeave 57).trans rfl
theorem rl_L_mustLeave_60 : (am_pg z_L_mustLeave).2 60 = some (.bipush (-2), 62, 0, 0, 0, 0, -2, []) := (congrFun pm_L_mustLeave 60).trans rfl
theorem rl_L_mustLeave_62 : (am_pg z_L_mustLeave).2 62 = some (.ireturn, 63, 0, 0, 0, 0, 0, []) := (congrFun pm_L_mustLeave 62).trans rfl
theorem rl_L_mayCome_0 : (am_pg z_L_mayCome).2 0 = some (.iload_n 1, 1, 1, 0, 0, 0, 0, []) := (congrFun pm_L_mayCome 0).trans rfl
theorem rl_L_mayCome_1 : (am_pg z_L_mayCome).2 1 = some (.invokestatic 113, 4, 69, 1, 0, 37, 0, []) := (congrFun pm_L_mayCome 1).trans rfl
theorem rl_L_mayCome_4 : (am_pg z_L_mayCome).2 4 = some (.ifCond .eq (21), 7, 25, 0, 0, 0, 0, []) := (congrFun pm_L_mayCome 4).trans rfl
theorem rl_L_mayCome_7 : (am_pg z_L_mayCome).2 7 = some (.iload_n 2, 8, 2, 0, 0, 0, 0, []) := (congrFun pm_L_mayCome 7).trans rfl
theorem rl_L_mayCome_8 : (am_pg z_L_mayCome).2 8 = some (.invokestatic 147, 11, 66, 1, 0, 34, 0, []) := (congrFun pm_L_mayCome 8).trans rfl
theorem rl_L_mayCome_11 : (am_pg z_L_mayCome).2 11 = some (.ifCond .eq (14), 14, 25, 0, 0, 0, 0, []) := (congrFun pm_L_mayCome 11).trans rfl
theorem rl_L_mayCome_14 : (am_pg z_L_mayCome).2 14 = some (.iload_n 3, 15, 3, 0, 0, 0, 0, []) := (congrFun pm_L_mayCome 14).trans rfl
theorem rl_L_mayCome_15 : (am_pg z_L_mayCome).2 15 = some (.iconst (1), 16, 0, 0, 0, 0, 1, []) := (congrFun pm_L_mayCome 15).trans rfl
theorem rl_L_mayCome_16 : (am_pg z_L_mayCome).2 16 = some (.sipush (360), 19, 0, 0, 0, 0, 360, []) := (congrFun pm_L_mayCome 16).trans rfl
theorem rl_L_mayCome_19 : (am_pg z_L_mayCome).2 19 = some (.invokestatic 133, 22, 65, 3, 0, 16, 0, []) := (congrFun pm_L_mayCome 19).trans rfl
theorem rl_L_mayCome_22 : (am_pg z_L_mayCome).2 22 = some (.ifCond .ne (5), 25, 27, 0, 0, 0, 0, []) := (congrFun pm_L_mayCome 22).trans rfl
theorem rl_L_mayCome_25 : (am_pg z_L_mayCome).2 25 = some (.iconst (-1), 26, 0, 0, 0, 0, -1, []) := (congrFun pm_L_mayCome 25).trans rfl
theorem rl_L_mayCome_26 : (am_pg z_L_mayCome).2 26 = some (.ireturn, 27, 0, 0, 0, 0, 0, []) := (congrFun pm_L_mayCome 26).trans rfl
theorem rl_L_mayCome_27 : (am_pg z_L_mayCome).2 27 = some (.aload_n 0, 28, 0, 0, 0, 0, 0, []) := (congrFun pm_L_mayCome 27).trans rfl
theorem rl_L_mayCome_28 : (am_pg z_L_mayCome).2 28 = some (.getfield 69, 31, 8, 7, 0, 74, 0, []) := (congrFun pm_L_mayCome 28).trans rfl
theorem rl_L_mayCome_31 : (am_pg z_L_mayCome).2 31 = some (.aload_n 0, 32, 0, 0, 0, 0, 0, []) := (congrFun pm_L_mayCome 31).trans rfl
theorem rl_L_mayCome_32 : (am_pg z_L_mayCome).2 32 = some (.getfield 10, 35, 8, 0, 0, 67, 0, []) := (congrFun pm_L_mayCome 32).trans rfl
theorem rl_L_mayCome_35 : (am_pg z_L_mayCome).2 35 = some (.getfield 95, 38, 6, 0, 0, 24, 0, []) := (congrFun pm_L_mayCome 35).trans rfl
theorem rl_L_mayCome_38 : (am_pg z_L_mayCome).2 38 = some (.iload_n 1, 39, 1, 0, 0, 0, 0, []) := (congrFun pm_L_mayCome 38).trans rfl
theorem rl_L_mayCome_39 : (am_pg z_L_mayCome).2 39 = some (.invokevirtual 236, 42, 257, 2, 3, 91, 0, []) := (congrFun pm_L_mayCome 39).trans rfl
theorem rl_L_mayCome_42 : (am_pg z_L_mayCome).2 42 = some (.iload_n 2, 43, 2, 0, 0, 0, 0, []) := (congrFun pm_L_mayCome 42).trans rfl
theorem rl_L_mayCome_43 : (am_pg z_L_mayCome).2 43 = some (.istore 4, 45, 4, 0, 0, 0, 0, []) := (congrFun pm_L_mayCome 43).trans rfl
theorem rl_L_mayCome_45 : (am_pg z_L_mayCome).2 45 = some (.iload 4, 47, 4, 0, 0, 0, 0, []) := (congrFun pm_L_mayCome 45).trans rfl
theorem rl_L_mayCome_47 : (am_pg z_L_mayCome).2 47 = some (.sipush (1080), 50, 0, 0, 0, 0, 1080, []) := (congrFun pm_L_mayCome 47).trans rfl
theorem rl_L_mayCome_50 : (am_pg z_L_mayCome).2 50 = some (.if_icmp .ge (36), 53, 86, 0, 0, 0, 0, []) := (congrFun pm_L_mayCome 50).trans rfl
theorem rl_L_mayCome_53 : (am_pg z_L_mayCome).2 53 = some (.aload_n 0, 54, 0, 0, 0, 0, 0, []) := (congrFun pm_L_mayCome 53).trans rfl
theorem rl_L_mayCome_54 : (am_pg z_L_mayCome).2 54 = some (.getfield 69, 57, 8, 7, 0, 74, 0, []) := (congrFun pm_L_mayCome 54).trans rfl
theorem rl_L_mayCome_57 : (am_pg z_L_mayCome).2 57 = some (.iload 4, 59, 4, 0, 0, 0, 0, []) := (congrFun pm_L_mayCome 57).trans rfl
theorem rl_L_mayCome_59 : (am_pg z_L_mayCome).2 59 = some (.iload 4, 61, 4, 0, 0, 0, 0, []) := (congrFun pm_L_mayCome 59).trans rfl
theorem rl_L_mayCome_61 : (am_pg z_L_mayCome).2 61 = some (.iload_n 3, 62, 3, 0, 0, 0, 0, []) := (congrFun pm_L_mayCome 61).trans rfl
theorem rl_L_mayCome_62 : (am_pg z_L_mayCome).2 62 = some (.iadd, 63, 0, 0, 0, 0, 0, []) := (congrFun pm_L_mayCome 62).trans rfl
theorem rl_L_mayCome_63 : (am_pg z_L_mayCome).2 63 = some (.sipush (1080), 66, 0, 0, 0, 0, 1080, []) := (congrFun pm_L_mayCome 63).trans rfl
theorem rl_L_mayCome_66 : (am_pg z_L_mayCome).2 66 = some (.invokestatic 141, 69, 0, 2, 3, 2, 0, []) := (congrFun pm_L_mayCome 66).trans rfl
theorem rl_L_mayCome_69 : (am_pg z_L_mayCome).2 69 = some (.iconst (1), 70, 0, 0, 0, 0, 1, []) := (congrFun pm_L_mayCome 69).trans rfl
theorem rl_L_mayCome_70 : (am_pg z_L_mayCome).2 70 = some (.isub, 71, 0, 0, 0, 0, 0, []) := (congrFun pm_L_mayCome 70).trans rfl
theorem rl_L_mayCome_71 : (am_pg z_L_mayCome).2 71 = some (.invokevirtual 332, 74, 262, 2, 3, 173, 0, []) := (congrFun pm_L_mayCome 71).trans rfl
theorem rl_L_mayCome_74 : (am_pg z_L_mayCome).2 74 = some (.ifCond .ne (6), 77, 80, 0, 0, 0, 0, []) := (congrFun pm_L_mayCome 74).trans rfl
theorem rl_L_mayCome_77 : (am_pg z_L_mayCome).2 77 = some (.iload 4, 79, 4, 0, 0, 0, 0, []) := (congrFun pm_L_mayCome 77).trans rfl
theorem rl_L_mayCome_79 : (am_pg z_L_mayCome).2 79 = some (.ireturn, 80, 0, 0, 0, 0, 0, []) := (congrFun pm_L_mayCome 79).trans rfl
theorem rl_L_mayCome_80 : (am_pg z_L_mayCome).2 80 = some (.iinc 4 (1), 83, 4, 0, 0, 0, 1, []) := (congrFun pm_L_mayCome 80).trans rfl
theorem rl_L_mayCome_83 : (am_pg z_L_mayCome).2 83 = some (.goto (-38), 86, 45, 0, 0, 0, 0, []) := (congrFun pm_L_mayCome 83).trans rfl
theorem rl_L_mayCome_86 : (am_pg z_L_mayCome).2 86 = some (.bipush (-2), 88, 0, 0, 0, 0, -2, []) := (congrFun pm_L_mayCome 86).trans rfl
theorem rl_L_mayCome_88 : (am_pg z_L_mayCome).2 88 = some (.ireturn, 89, 0, 0, 0, 0, 0, []) := (congrFun pm_L_mayCome 88).trans rfl
theorem rl_L_claimBy_0 : (am_pg z_L_claimBy).2 0 = some (.iload_n 1, 1, 1, 0, 0, 0, 0, []) := (congrFun pm_L_claimBy 0).trans rfl
theorem rl_L_claimBy_1 : (am_pg z_L_claimBy).2 1 = some (.invokestatic 113, 4, 69, 1, 0, 37, 0, []) := (congrFun pm_L_claimBy 1).trans rfl
theorem rl_L_claimBy_4 : (am_pg z_L_claimBy).2 4 = some (.ifCond .eq (10), 7, 14, 0, 0, 0, 0, []) := (congrFun pm_L_claimBy 4).trans rfl
theorem rl_L_claimBy_7 : (am_pg z_L_claimBy).2 7 = some (.iload_n 2, 8, 2, 0, 0, 0, 0, []) := (congrFun pm_L_claimBy 7).trans rfl
theorem rl_L_claimBy_8 : (am_pg z_L_claimBy).2 8 = some (.invokestatic 147, 11, 66, 1, 0, 34, 0, []) := (congrFun pm_L_claimBy 8).trans rfl
theorem rl_L_claimBy_11 : (am_pg z_L_claimBy).2 11 = some (.ifCond .ne (5), 14, 16, 0, 0, 0, 0, []) := (congrFun pm_L_claimBy 11).trans rfl
theorem rl_L_claimBy_14 : (am_pg z_L_claimBy).2 14 = some (.iconst (-1), 15, 0, 0, 0, 0, -1, []) := (congrFun pm_L_claimBy 14).trans rfl
theorem rl_L_claimBy_15 : (am_pg z_L_claimBy).2 15 = some (.ireturn, 16, 0, 0, 0, 0, 0, []) := (congrFun pm_L_claimBy 15).trans rfl
theorem rl_L_claimBy_16 : (am_pg z_L_claimBy).2 16 = some (.aload_n 0, 17, 0, 0, 0, 0, 0, []) := (congrFun pm_L_claimBy 16).trans rfl
theorem rl_L_claimBy_17 : (am_pg z_L_claimBy).2 17 = some (.getfield 56, 20, 8, 6, 0, 73, 0, []) := (congrFun pm_L_claimBy 17).trans rfl
theorem rl_L_claimBy_20 : (am_pg z_L_claimBy).2 20 = some (.aload_n 0, 21, 0, 0, 0, 0, 0, []) := (congrFun pm_L_claimBy 20).trans rfl
theorem rl_L_claimBy_21 : (am_pg z_L_claimBy).2 21 = some (.getfield 10, 24, 8, 0, 0, 67, 0, []) := (congrFun pm_L_claimBy 21).trans rfl
theorem rl_L_claimBy_24 : (am_pg z_L_claimBy).2 24 = some (.getfield 95, 27, 6, 0, 0, 24, 0, []) := (congrFun pm_L_claimBy 24).trans rfl
theorem rl_L_claimBy_27 : (am_pg z_L_claimBy).2 27 = some (.invokevirtual 245, 30, 210, 1, 0, 100, 0, []) := (congrFun pm_L_claimBy 27).trans rfl
theorem rl_L_claimBy_30 : (am_pg z_L_claimBy).2 30 = some (.iload_n 2, 31, 2, 0, 0, 0, 0, []) := (congrFun pm_L_claimBy 30).trans rfl
theorem rl_L_claimBy_31 : (am_pg z_L_claimBy).2 31 = some (.istore_n 3, 32, 3, 0, 0, 0, 0, []) := (congrFun pm_L_claimBy 31).trans rfl
theorem rl_L_claimBy_32 : (am_pg z_L_claimBy).2 32 = some (.iload_n 3, 33, 3, 0, 0, 0, 0, []) := (congrFun pm_L_claimBy 32).trans rfl
theorem rl_L_claimBy_33 : (am_pg z_L_claimBy).2 33 = some (.sipush (1080), 36, 0, 0, 0, 0, 1080, []) := (congrFun pm_L_claimBy 33).trans rfl
theorem rl_L_claimBy_36 : (am_pg z_L_claimBy).2 36 = some (.if_icmp .ge (63), 39, 99, 0, 0, 0, 0, []) := (congrFun pm_L_claimBy 36).trans rfl
theorem rl_L_claimBy_39 : (am_pg z_L_claimBy).2 39 = some (.iload_n 3, 40, 3, 0, 0, 0, 0, []) := (congrFun pm_L_claimBy 39).trans rfl
theorem rl_L_claimBy_40 : (am_pg z_L_claimBy).2 40 = some (.invokestatic 335, 43, 77, 1, 0, 176, 0, []) := (congrFun pm_L_claimBy 40).trans rfl
theorem rl_L_claimBy_43 : (am_pg z_L_claimBy).2 43 = some (.istore 4, 45, 4, 0, 0, 0, 0, []) := (congrFun pm_L_claimBy 43).trans rfl
theorem rl_L_claimBy_45 : (am_pg z_L_claimBy).2 45 = some (.aload_n 0, 46, 0, 0, 0, 0, 0, []) := (congrFun pm_L_claimBy 45).trans rfl
theorem rl_L_claimBy_46 : (am_pg z_L_claimBy).2 46 = some (.getfield 10, 49, 8, 0, 0, 67, 0, []) := (congrFun pm_L_claimBy 46).trans rfl
theorem rl_L_claimBy_49 : (am_pg z_L_claimBy).2 49 = some (.getfield 95, 52, 6, 0, 0, 24, 0, []) := (congrFun pm_L_claimBy 49).trans rfl
theorem rl_L_claimBy_52 : (am_pg z_L_claimBy).2 52 = some (.iload_n 3, 53, 3, 0, 0, 0, 0, []) := (congrFun pm_L_claimBy 52).trans rfl
theorem rl_L_claimBy_53 : (am_pg z_L_claimBy).2 53 = some (.invokevirtual 150, 56, 237, 1, 1, 47, 0, []) := (congrFun pm_L_claimBy 53).trans rfl
theorem rl_L_claimBy_56 : (am_pg z_L_claimBy).2 56 = some (.iload_n 1, 57, 1, 0, 0, 0, 0, []) := (congrFun pm_L_claimBy 56).trans rfl
theorem rl_L_claimBy_57 : (am_pg z_L_claimBy).2 57 = some (.if_icmp .eq (21), 60, 78, 0, 0, 0, 0, []) := (congrFun pm_L_claimBy 57).trans rfl
theorem rl_L_claimBy_60 : (am_pg z_L_claimBy).2 60 = some (.aload_n 0, 61, 0, 0, 0, 0, 0, []) := (congrFun pm_L_claimBy 60).trans rfl
theorem rl_L_claimBy_61 : (am_pg z_L_claimBy).2 61 = some (.getfield 56, 64, 8, 6, 0, 73, 0, []) := (congrFun pm_L_claimBy 61).trans rfl
theorem rl_L_claimBy_64 : (am_pg z_L_claimBy).2 64 = some (.getfield 273, 67, 0, 2, 0, 58, 0, []) := (congrFun pm_L_claimBy 64).trans rfl
theorem rl_L_claimBy_67 : (am_pg z_L_claimBy).2 67 = some (.iload_n 1, 68, 1, 0, 0, 0, 0, []) := (congrFun pm_L_claimBy 67).trans rfl
theorem rl_L_claimBy_68 : (am_pg z_L_claimBy).2 68 = some (.iload 4, 70, 4, 0, 0, 0, 0, []) := (congrFun pm_L_claimBy 68).trans rfl
theorem rl_L_claimBy_70 : (am_pg z_L_claimBy).2 70 = some (.invokestatic 276, 73, 78, 2, 0, 118, 0, []) := (congrFun pm_L_claimBy 70).trans rfl
theorem rl_L_claimBy_73 : (am_pg z_L_claimBy).2 73 = some (.dup2, 74, 0, 0, 0, 0, 0, []) := (congrFun pm_L_claimBy 73).trans rfl
theorem rl_L_claimBy_74 : (am_pg z_L_claimBy).2 74 = some (.iaload, 75, 0, 0, 0, 0, 0, []) := (congrFun pm_L_claimBy 74).trans rfl
theorem rl_L_claimBy_75 : (am_pg z_L_claimBy).2 75 = some (.iconst (1), 76, 0, 0, 0, 0, 1, []) := (congrFun pm_L_claimBy 75).trans rfl
theorem rl_L_claimBy_76 : (am_pg z_L_claimBy).2 76 = some (.iadd, 77, 0, 0, 0, 0, 0, []) := (congrFun pm_L_claimBy 76).trans rfl
theorem rl_L_claimBy_77 : (am_pg z_L_claimBy).2 77 = some (.iastore, 78, 0, 0, 0, 0, 0, []) := (congrFun pm_L_claimBy 77).trans rfl
theorem rl_L_claimBy_78 : (am_pg z_L_claimBy).2 78 = some (.aload_n 0, 79, 0, 0, 0, 0, 0, []) := (congrFun pm_L_claimBy 78).trans rfl
theorem rl_L_claimBy_79 : (am_pg z_L_claimBy).2 79 = some (.getfield 56, 82, 8, 6, 0, 73, 0, []) := (congrFun pm_L_claimBy 79).trans rfl
theorem rl_L_claimBy_82 : (am_pg z_L_claimBy).2 82 = some (.iload_n 1, 83, 1, 0, 0, 0, 0, []) := (congrFun pm_L_claimBy 82).trans rfl
theorem rl_L_claimBy_83 : (am_pg z_L_claimBy).2 83 = some (.iload 4, 85, 4, 0, 0, 0, 0, []) := (congrFun pm_L_claimBy 83).trans rfl
theorem rl_L_claimBy_85 : (am_pg z_L_claimBy).2 85 = some (.invokevirtual 279, 88, 216, 2, 0, 119, 0, []) := (congrFun pm_L_claimBy 85).trans rfl
theorem rl_L_claimBy_88 : (am_pg z_L_claimBy).2 88 = some (.ifCond .eq (5), 91, 93, 0, 0, 0, 0, []) := (congrFun pm_L_claimBy 88).trans rfl
theorem rl_L_claimBy_91 : (am_pg z_L_claimBy).2 91 = some (.iload_n 3, 92, 3, 0, 0, 0, 0, []) := (congrFun pm_L_claimBy 91).trans rfl
theorem rl_L_claimBy_92 : (am_pg z_L_claimBy).2 92 = some (.ireturn, 93, 0, 0, 0, 0, 0, []) := (congrFun pm_L_claimBy 92).trans rfl
theorem rl_L_claimBy_93 : (am_pg z_L_claimBy).2 93 = some (.iinc 3 (1), 96, 3, 0, 0, 0, 1, []) := (congrFun pm_L_claimBy 93).trans rfl
theorem rl_L_claimBy_96 : (am_pg z_L_claimBy).2 96 = some (.goto (-64), 99, 32, 0, 0, 0, 0, []) := (congrFun pm_L_claimBy 96).trans rfl
theorem rl_L_claimBy_99 : (am_pg z_L_claimBy).2 99 = some (.bipush (-2), 101, 0, 0, 0, 0, -2, []) := (congrFun pm_L_claimBy 99).trans rfl
theorem rl_L_claimBy_101 : (am_pg z_L_claimBy).2 101 = some (.ireturn, 102, 0, 0, 0, 0, 0, []) := (congrFun pm_L_claimBy 101).trans rfl
theorem rl_L_freest_0 : (am_pg z_L_freest).2 0 = some (.iload_n 1, 1, 1, 0, 0, 0, 0, []) := (congrFun pm_L_freest 0).trans rfl
theorem rl_L_freest_1 : (am_pg z_L_freest).2 1 = some (.invokestatic 147, 4, 66, 1, 0, 34, 0, []) := (congrFun pm_L_freest 1).trans rfl
theorem rl_L_freest_4 : (am_pg z_L_freest).2 4 = some (.ifCond .eq (23), 7, 27, 0, 0, 0, 0, []) := (congrFun pm_L_freest 4).trans rfl
theorem rl_L_freest_7 : (am_pg z_L_freest).2 7 = some (.iload_n 2, 8, 2, 0, 0, 0, 0, []) := (congrFun pm_L_freest 7).trans rfl
theorem rl_L_freest_8 : (am_pg z_L_freest).2 8 = some (.iconst (1), 9, 0, 0, 0, 0, 1, []) := (congrFun pm_L_freest 8).trans rfl
theorem rl_L_freest_9 : (am_pg z_L_freest).2 9 = some (.sipush (360), 12, 0, 0, 0, 0, 360, []) := (congrFun pm_L_freest 9).trans rfl
theorem rl_L_freest_12 : (am_pg z_L_freest).2 12 = some (.invokestatic 133, 15, 65, 3, 0, 16, 0, []) := (congrFun pm_L_freest 12).trans rfl
theorem rl_L_freest_15 : (am_pg z_L_freest).2 15 = some (.ifCond .eq (12), 18, 27, 0, 0, 0, 0, []) := (congrFun pm_L_freest 15).trans rfl
theorem rl_L_freest_18 : (am_pg z_L_freest).2 18 = some (.iload_n 3, 19, 3, 0, 0, 0, 0, []) := (congrFun pm_L_freest 18).trans rfl
theorem rl_L_freest_19 : (am_pg z_L_freest).2 19 = some (.iconst (0), 20, 0, 0, 0, 0, 0, []) := (congrFun pm_L_freest 19).trans rfl
theorem rl_L_freest_20 : (am_pg z_L_freest).2 20 = some (.iconst (1), 21, 0, 0, 0, 0, 1, []) := (congrFun pm_L_freest 20).trans rfl
theorem rl_L_freest_21 : (am_pg z_L_freest).2 21 = some (.invokestatic 133, 24, 65, 3, 0, 16, 0, []) := (congrFun pm_L_freest 21).trans rfl
theorem rl_L_freest_24 : (am_pg z_L_freest).2 24 = some (.ifCond .ne (5), 27, 29, 0, 0, 0, 0, []) := (congrFun pm_L_freest 24).trans rfl
theorem rl_L_freest_27 : (am_pg z_L_freest).2 27 = some (.iconst (-1), 28, 0, 0, 0, 0, -1, []) := (congrFun pm_L_freest 27).trans rfl
theorem rl_L_freest_28 : (am_pg z_L_freest).2 28 = some (.ireturn, 29, 0, 0, 0, 0, 0, []) := (congrFun pm_L_freest 28).trans rfl
theorem rl_L_freest_29 : (am_pg z_L_freest).2 29 = some (.iconst (0), 30, 0, 0, 0, 0, 0, []) := (congrFun pm_L_freest 29).trans rfl
theorem rl_L_freest_30 : (am_pg z_L_freest).2 30 = some (.istore 4, 32, 4, 0, 0, 0, 0, []) := (congrFun pm_L_freest 30).trans rfl
theorem rl_L_freest_32 : (am_pg z_L_freest).2 32 = some (.iconst (-1), 33, 0, 0, 0, 0, -1, []) := (congrFun pm_L_freest 32).trans rfl
theorem rl_L_freest_33 : (am_pg z_L_freest).2 33 = some (.istore 5, 35, 5, 0, 0, 0, 0, []) := (congrFun pm_L_freest 33).trans rfl
theorem rl_L_freest_35 : (am_pg z_L_freest).2 35 = some (.iconst (0), 36, 0, 0, 0, 0, 0, []) := (congrFun pm_L_freest 35).trans rfl
theorem rl_L_freest_36 : (am_pg z_L_freest).2 36 = some (.istore 6, 38, 6, 0, 0, 0, 0, []) := (congrFun pm_L_freest 36).trans rfl
theorem rl_L_freest_38 : (am_pg z_L_freest).2 38 = some (.iload 6, 40, 6, 0, 0, 0, 0, []) := (congrFun pm_L_freest 38).trans rfl
theorem rl_L_freest_40 : (am_pg z_L_freest).2 40 = some (.bipush (6), 42, 0, 0, 0, 0, 6, []) := (congrFun pm_L_freest 40).trans rfl
theorem rl_L_freest_42 : (am_pg z_L_freest).2 42 = some (.if_icmp .ge (59), 45, 101, 0, 0, 0, 0, []) := (congrFun pm_L_freest 42).trans rfl
theorem rl_L_freest_45 : (am_pg z_L_freest).2 45 = some (.aload_n 0, 46, 0, 0, 0, 0, 0, []) := (congrFun pm_L_freest 45).trans rfl
theorem rl_L_freest_46 : (am_pg z_L_freest).2 46 = some (.getfield 69, 49, 8, 7, 0, 74, 0, []) := (congrFun pm_L_freest 46).trans rfl
theorem rl_L_freest_49 : (am_pg z_L_freest).2 49 = some (.aload_n 0, 50, 0, 0, 0, 0, 0, []) := (congrFun pm_L_freest 49).trans rfl
theorem rl_L_freest_50 : (am_pg z_L_freest).2 50 = some (.getfield 10, 53, 8, 0, 0, 67, 0, []) := (congrFun pm_L_freest 50).trans rfl
theorem rl_L_freest_53 : (am_pg z_L_freest).2 53 = some (.getfield 95, 56, 6, 0, 0, 24, 0, []) := (congrFun pm_L_freest 53).trans rfl
theorem rl_L_freest_56 : (am_pg z_L_freest).2 56 = some (.iload 6, 58, 6, 0, 0, 0, 0, []) := (congrFun pm_L_freest 56).trans rfl
theorem rl_L_freest_58 : (am_pg z_L_freest).2 58 = some (.invokevirtual 236, 61, 257, 2, 3, 91, 0, []) := (congrFun pm_L_freest 58).trans rfl
theorem rl_L_freest_61 : (am_pg z_L_freest).2 61 = some (.aload_n 0, 62, 0, 0, 0, 0, 0, []) := (congrFun pm_L_freest 61).trans rfl
theorem rl_L_freest_62 : (am_pg z_L_freest).2 62 = some (.getfield 69, 65, 8, 7, 0, 74, 0, []) := (congrFun pm_L_freest 62).trans rfl
theorem rl_L_freest_65 : (am_pg z_L_freest).2 65 = some (.iload_n 1, 66, 1, 0, 0, 0, 0, []) := (congrFun pm_L_freest 65).trans rfl
theorem rl_L_freest_66 : (am_pg z_L_freest).2 66 = some (.iload_n 1, 67, 1, 0, 0, 0, 0, []) := (congrFun pm_L_freest 66).trans rfl
theorem rl_L_freest_67 : (am_pg z_L_freest).2 67 = some (.iload_n 2, 68, 2, 0, 0, 0, 0, []) := (congrFun pm_L_freest 67).trans rfl
theorem rl_L_freest_68 : (am_pg z_L_freest).2 68 = some (.iadd, 69, 0, 0, 0, 0, 0, []) := (congrFun pm_L_freest 68).trans rfl
theorem rl_L_freest_69 : (am_pg z_L_freest).2 69 = some (.sipush (1080), 72, 0, 0, 0, 0, 1080, []) := (congrFun pm_L_freest 69).trans rfl
theorem rl_L_freest_72 : (am_pg z_L_freest).2 72 = some (.invokestatic 141, 75, 0, 2, 3, 2, 0, []) := (congrFun pm_L_freest 72).trans rfl
theorem rl_L_freest_75 : (am_pg z_L_freest).2 75 = some (.invokevirtual 329, 78, 263, 2, 3, 168, 0, []) := (congrFun pm_L_freest 75).trans rfl
theorem rl_L_freest_78 : (am_pg z_L_freest).2 78 = some (.istore 7, 80, 7, 0, 0, 0, 0, []) := (congrFun pm_L_freest 78).trans rfl
theorem rl_L_freest_80 : (am_pg z_L_freest).2 80 = some (.iload 7, 82, 7, 0, 0, 0, 0, []) := (congrFun pm_L_freest 80).trans rfl
theorem rl_L_freest_82 : (am_pg z_L_freest).2 82 = some (.iload 5, 84, 5, 0, 0, 0, 0, []) := (congrFun pm_L_freest 82).trans rfl
theorem rl_L_freest_84 : (am_pg z_L_freest).2 84 = some (.if_icmp .le (11), 87, 95, 0, 0, 0, 0, []) := (congrFun pm_L_freest 84).trans rfl
theorem rl_L_freest_87 : (am_pg z_L_freest).2 87 = some (.iload 6, 89, 6, 0, 0, 0, 0, []) := (congrFun pm_L_freest 87).trans rfl
theorem rl_L_freest_89 : (am_pg z_L_freest).2 89 = some (.istore 4, 91, 4, 0, 0, 0, 0, []) := (congrFun pm_L_freest 89).trans rfl
theorem rl_L_freest_91 : (am_pg z_L_freest).2 91 = some (.iload 7, 93, 7, 0, 0, 0, 0, []) := (congrFun pm_L_freest 91).trans rfl
theorem rl_L_freest_93 : (am_pg z_L_freest).2 93 = some (.istore 5, 95, 5, 0, 0, 0, 0, []) := (congrFun pm_L_freest 93).trans rfl
theorem rl_L_freest_95 : (am_pg z_L_freest).2 95 = some (.iinc 6 (1), 98, 6, 0, 0, 0, 1, []) := (congrFun pm_L_freest 95).trans rfl
theorem rl_L_freest_98 : (am_pg z_L_freest).2 98 = some (.goto (-60), 101, 38, 0, 0, 0, 0, []) := (congrFun pm_L_freest 98).trans rfl
theorem rl_L_freest_101 : (am_pg z_L_freest).2 101 = some (.iload_n 3, 102, 3, 0, 0, 0, 0, []) := (congrFun pm_L_freest 101).trans rfl
theorem rl_L_freest_102 : (am_pg z_L_freest).2 102 = some (.ifCond .ne (8), 105, 110, 0, 0, 0, 0, []) := (congrFun pm_L_freest 102).trans rfl
theorem rl_L_freest_105 : (am_pg z_L_freest).2 105 = some (.iload 4, 107, 4, 0, 0, 0, 0, []) := (congrFun pm_L_freest 105).trans rfl
theorem rl_L_freest_107 : (am_pg z_L_freest).2 107 = some (.goto (5), 110, 112, 0, 0, 0, 0, []) := (congrFun pm_L_freest 107).trans rfl
theorem rl_L_freest_110 : (am_pg z_L_freest).2 110 = some (.iload 5, 112, 5, 0, 0, 0, 0, []) := (congrFun pm_L_freest 110).trans rfl
theorem rl_L_freest_112 : (am_pg z_L_freest).2 112 = some (.ireturn, 113, 0, 0, 0, 0, 0, []) := (congrFun pm_L_freest 112).trans rfl
theorem rl_L_need_0 : (am_pg z_L_need).2 0 = some (.iload_n 1, 1, 1, 0, 0, 0, 0, []) := (congrFun pm_L_need 0).trans rfl
theorem rl_L_need_1 : (am_pg z_L_need).2 1 = some (.invokestatic 113, 4, 69, 1, 0, 37, 0, []) := (congrFun pm_L_need 1).trans rfl
theorem rl_L_need_4 : (am_pg z_L_need).2 4 = some (.ifCond .eq (10), 7, 14, 0, 0, 0, 0, []) := (congrFun pm_L_need 4).trans rfl
theorem rl_L_need_7 : (am_pg z_L_need).2 7 = some (.iload_n 2, 8, 2, 0, 0, 0, 0, []) := (congrFun pm_L_need 7).trans rfl
theorem rl_L_need_8 : (am_pg z_L_need).2 8 = some (.invokestatic 190, 11, 68, 1, 0, 70, 0, []) := (congrFun pm_L_need 8).trans rfl
theorem rl_L_need_11 : (am_pg z_L_need).2 11 = some (.ifCond .ne (5), 14, 16, 0, 0, 0, 0, []) := (congrFun pm_L_need 11).trans rfl
theorem rl_L_need_14 : (am_pg z_L_need).2 14 = some (.iconst (-1), 15, 0, 0, 0, 0, -1, []) := (congrFun pm_L_need 14).trans rfl
theorem rl_L_need_15 : (am_pg z_L_need).2 15 = some (.ireturn, 16, 0, 0, 0, 0, 0, []) := (congrFun pm_L_need 15).trans rfl
theorem rl_L_need_16 : (am_pg z_L_need).2 16 = some (.aload_n 0, 17, 0, 0, 0, 0, 0, []) := (congrFun pm_L_need 16).trans rfl
theorem rl_L_need_17 : (am_pg z_L_need).2 17 = some (.getfield 56, 20, 8, 6, 0, 73, 0, []) := (congrFun pm_L_need 17).trans rfl
theorem rl_L_need_20 : (am_pg z_L_need).2 20 = some (.aload_n 0, 21, 0, 0, 0, 0, 0, []) := (congrFun pm_L_need 20).trans rfl
theorem rl_L_need_21 : (am_pg z_L_need).2 21 = some (.getfield 10, 24, 8, 0, 0, 67, 0, []) := (congrFun pm_L_need 21).trans rfl
theorem rl_L_need_24 : (am_pg z_L_need).2 24 = some (.getfield 95, 27, 6, 0, 0, 24, 0, []) := (congrFun pm_L_need 24).trans rfl
theorem rl_L_need_27 : (am_pg z_L_need).2 27 = some (.invokevirtual 245, 30, 210, 1, 0, 100, 0, []) := (congrFun pm_L_need 27).trans rfl
theorem rl_L_need_30 : (am_pg z_L_need).2 30 = some (.aload_n 0, 31, 0, 0, 0, 0, 0, []) := (congrFun pm_L_need 30).trans rfl
theorem rl_L_need_31 : (am_pg z_L_need).2 31 = some (.getfield 56, 34, 8, 6, 0, 73, 0, []) := (congrFun pm_L_need 31).trans rfl
theorem rl_L_need_34 : (am_pg z_L_need).2 34 = some (.iload_n 1, 35, 1, 0, 0, 0, 0, []) := (congrFun pm_L_need 34).trans rfl
theorem rl_L_need_35 : (am_pg z_L_need).2 35 = some (.iload_n 2, 36, 2, 0, 0, 0, 0, []) := (congrFun pm_L_need 35).trans rfl
theorem rl_L_need_36 : (am_pg z_L_need).2 36 = some (.invokevirtual 338, 39, 228, 2, 0, 179, 0, []) := (congrFun pm_L_need 36).trans rfl
theorem rl_L_need_39 : (am_pg z_L_need).2 39 = some (.ireturn, 40, 0, 0, 0, 0, 0, []) := (congrFun pm_L_need 39).trans rfl
theorem rl_L_moved_0 : (am_pg z_L_moved).2 0 = some (.iload_n 1, 1, 1, 0, 0, 0, 0, []) := (congrFun pm_L_moved 0).trans rfl
theorem rl_L_moved_1 : (am_pg z_L_moved).2 1 = some (.invokestatic 147, 4, 66, 1, 0, 34, 0, []) := (congrFun pm_L_moved 1).trans rfl
theorem rl_L_moved_4 : (am_pg z_L_moved).2 4 = some (.ifCond .eq (10), 7, 14, 0, 0, 0, 0, []) := (congrFun pm_L_moved 4).trans rfl
theorem rl_L_moved_7 : (am_pg z_L_moved).2 7 = some (.iload_n 2, 8, 2, 0, 0, 0, 0, []) := (congrFun pm_L_moved 7).trans rfl
theorem rl_L_moved_8 : (am_pg z_L_moved).2 8 = some (.invokestatic 102, 11, 70, 1, 0, 32, 0, []) := (congrFun pm_L_moved 8).trans rfl
theorem rl_L_moved_11 : (am_pg z_L_moved).2 11 = some (.ifCond .ne (5), 14, 16, 0, 0, 0, 0, []) := (congrFun pm_L_moved 11).trans rfl
theorem rl_L_moved_14 : (am_pg z_L_moved).2 14 = some (.iconst (-1), 15, 0, 0, 0, 0, -1, []) := (congrFun pm_L_moved 14).trans rfl
theorem rl_L_moved_15 : (am_pg z_L_moved).2 15 = some (.ireturn, 16, 0, 0, 0, 0, 0, []) := (congrFun pm_L_moved 15).trans rfl
theorem rl_L_moved_16 : (am_pg z_L_moved).2 16 = some (.aload_n 0, 17, 0, 0, 0, 0, 0, []) := (congrFun pm_L_moved 16).trans rfl
theorem rl_L_moved_17 : (am_pg z_L_moved).2 17 = some (.getfield 56, 20, 8, 6, 0, 73, 0, []) := (congrFun pm_L_moved 17).trans rfl
theorem rl_L_moved_20 : (am_pg z_L_moved).2 20 = some (.aload_n 0, 21, 0, 0, 0, 0, 0, []) := (congrFun pm_L_moved 20).trans rfl
theorem rl_L_moved_21 : (am_pg z_L_moved).2 21 = some (.getfield 10, 24, 8, 0, 0, 67, 0, []) := (congrFun pm_L_moved 21).trans rfl
theorem rl_L_moved_24 : (am_pg z_L_moved).2 24 = some (.getfield 95, 27, 6, 0, 0, 24, 0, []) := (congrFun pm_L_moved 24).trans rfl
theorem rl_L_moved_27 : (am_pg z_L_moved).2 27 = some (.invokevirtual 245, 30, 210, 1, 0, 100, 0, []) := (congrFun pm_L_moved 27).trans rfl
theorem rl_L_moved_30 : (am_pg z_L_moved).2 30 = some (.aload_n 0, 31, 0, 0, 0, 0, 0, []) := (congrFun pm_L_moved 30).trans rfl
theorem rl_L_moved_31 : (am_pg z_L_moved).2 31 = some (.getfield 56, 34, 8, 6, 0, 73, 0, []) := (congrFun pm_L_moved 31).trans rfl
theorem rl_L_moved_34 : (am_pg z_L_moved).2 34 = some (.aload_n 0, 35, 0, 0, 0, 0, 0, []) := (congrFun pm_L_moved 34).trans rfl
theorem rl_L_moved_35 : (am_pg z_L_moved).2 35 = some (.getfield 10, 38, 8, 0, 0, 67, 0, []) := (congrFun pm_L_moved 35).trans rfl
theorem rl_L_moved_38 : (am_pg z_L_moved).2 38 = some (.getfield 95, 41, 6, 0, 0, 24, 0, []) := (congrFun pm_L_moved 38).trans rfl
theorem rl_L_moved_41 : (am_pg z_L_moved).2 41 = some (.iload_n 1, 42, 1, 0, 0, 0, 0, []) := (congrFun pm_L_moved 41).trans rfl
theorem rl_L_moved_42 : (am_pg z_L_moved).2 42 = some (.invokevirtual 150, 45, 237, 1, 1, 47, 0, []) := (congrFun pm_L_moved 42).trans rfl
theorem rl_L_moved_45 : (am_pg z_L_moved).2 45 = some (.iload_n 2, 46, 2, 0, 0, 0, 0, []) := (congrFun pm_L_moved 45).trans rfl
theorem rl_L_moved_46 : (am_pg z_L_moved).2 46 = some (.iload_n 1, 47, 1, 0, 0, 0, 0, []) := (congrFun pm_L_moved 46).trans rfl
theorem rl_L_moved_47 : (am_pg z_L_moved).2 47 = some (.invokestatic 335, 50, 77, 1, 0, 176, 0, []) := (congrFun pm_L_moved 47).trans rfl
theorem rl_L_moved_50 : (am_pg z_L_moved).2 50 = some (.invokevirtual 341, 53, 225, 3, 0, 181, 0, []) := (congrFun pm_L_moved 50).trans rfl
theorem rl_L_moved_53 : (am_pg z_L_moved).2 53 = some (.ireturn, 54, 0, 0, 0, 0, 0, []) := (congrFun pm_L_moved 53).trans rfl
theorem rl_L_loose_0 : (am_pg z_L_loose).2 0 = some (.iload_n 1, 1, 1, 0, 0, 0, 0, []) := (congrFun pm_L_loose 0).trans rfl
theorem rl_L_loose_1 : (am_pg z_L_loose).2 1 = some (.invokestatic 190, 4, 68, 1, 0, 70, 0, []) := (congrFun pm_L_loose 1).trans rfl
theorem rl_L_loose_4 : (am_pg z_L_loose).2 4 = some (.ifCond .eq (12), 7, 16, 0, 0, 0, 0, []) := (congrFun pm_L_loose 4).trans rfl
theorem rl_L_loose_7 : (am_pg z_L_loose).2 7 = some (.iload_n 2, 8, 2, 0, 0, 0, 0, []) := (congrFun pm_L_loose 7).trans rfl
theorem rl_L_loose_8 : (am_pg z_L_loose).2 8 = some (.iconst (0), 9, 0, 0, 0, 0, 0, []) := (congrFun pm_L_loose 8).trans rfl
theorem rl_L_loose_9 : (am_pg z_L_loose).2 9 = some (.iconst (1), 10, 0, 0, 0, 0, 1, []) := (congrFun pm_L_loose 9).trans rfl
theorem rl_L_loose_10 : (am_pg z_L_loose).2 10 = some (.invokestatic 133, 13, 65, 3, 0, 16, 0, []) := (congrFun pm_L_loose 10).trans rfl
theorem rl_L_loose_13 : (am_pg z_L_loose).2 13 = some (.ifCond .ne (5), 16, 18, 0, 0, 0, 0, []) := (congrFun pm_L_loose 13).trans rfl
theorem rl_L_loose_16 : (am_pg z_L_loose).2 16 = some (.iconst (-1), 17, 0, 0, 0, 0, -1, []) := (congrFun pm_L_loose 16).trans rfl
theorem rl_L_loose_17 : (am_pg z_L_loose).2 17 = some (.ireturn, 18, 0, 0, 0, 0, 0, []) := (congrFun pm_L_loose 17).trans rfl
theorem rl_L_loose_18 : (am_pg z_L_loose).2 18 = some (.aload_n 0, 19, 0, 0, 0, 0, 0, []) := (congrFun pm_L_loose 18).trans rfl
theorem rl_L_loose_19 : (am_pg z_L_loose).2 19 = some (.getfield 56, 22, 8, 6, 0, 73, 0, []) := (congrFun pm_L_loose 19).trans rfl
theorem rl_L_loose_22 : (am_pg z_L_loose).2 22 = some (.aload_n 0, 23, 0, 0, 0, 0, 0, []) := (congrFun pm_L_loose 22).trans rfl
theorem rl_L_loose_23 : (am_pg z_L_loose).2 23 = some (.getfield 10, 26, 8, 0, 0, 67, 0, []) := (congrFun pm_L_loose 23).trans rfl
theorem rl_L_loose_26 : (am_pg z_L_loose).2 26 = some (.getfield 95, 29, 6, 0, 0, 24, 0, []) := (congrFun pm_L_loose 26).trans rfl
theorem rl_L_loose_29 : (am_pg z_L_loose).2 29 = some (.invokevirtual 245, 32, 210, 1, 0, 100, 0, []) := (congrFun pm_L_loose 29).trans rfl
theorem rl_L_loose_32 : (am_pg z_L_loose).2 32 = some (.aload_n 0, 33, 0, 0, 0, 0, 0, []) := (congrFun pm_L_loose 32).trans rfl
theorem rl_L_loose_33 : (am_pg z_L_loose).2 33 = some (.getfield 56, 36, 8, 6, 0, 73, 0, []) := (congrFun pm_L_loose 33).trans rfl
theorem rl_L_loose_36 : (am_pg z_L_loose).2 36 = some (.iload_n 1, 37, 1, 0, 0, 0, 0, []) := (congrFun pm_L_loose 36).trans rfl
theorem rl_L_loose_37 : (am_pg z_L_loose).2 37 = some (.invokevirtual 344, 40, 227, 1, 0, 184, 0, []) := (congrFun pm_L_loose 37).trans rfl
theorem rl_L_loose_40 : (am_pg z_L_loose).2 40 = some (.istore_n 3, 41, 3, 0, 0, 0, 0, []) := (congrFun pm_L_loose 40).trans rfl
theorem rl_L_loose_41 : (am_pg z_L_loose).2 41 = some (.iconst (0), 42, 0, 0, 0, 0, 0, []) := (congrFun pm_L_loose 41).trans rfl
theorem rl_L_loose_42 : (am_pg z_L_loose).2 42 = some (.istore 4, 44, 4, 0, 0, 0, 0, []) := (congrFun pm_L_loose 42).trans rfl
theorem rl_L_loose_44 : (am_pg z_L_loose).2 44 = some (.bipush (-2), 46, 0, 0, 0, 0, -2, []) := (congrFun pm_L_loose 44).trans rfl
theorem rl_L_loose_46 : (am_pg z_L_loose).2 46 = some (.istore 5, 48, 5, 0, 0, 0, 0, []) := (congrFun pm_L_loose 46).trans rfl
theorem rl_L_loose_48 : (am_pg z_L_loose).2 48 = some (.iload_n 1, 49, 1, 0, 0, 0, 0, []) := (congrFun pm_L_loose 48).trans rfl
theorem rl_L_loose_49 : (am_pg z_L_loose).2 49 = some (.invokestatic 193, 52, 75, 1, 0, 71, 0, []) := (congrFun pm_L_loose 49).trans rfl
theorem rl_L_loose_52 : (am_pg z_L_loose).2 52 = some (.istore 6, 54, 6, 0, 0, 0, 0, []) := (congrFun pm_L_loose 52).trans rfl
theorem rl_L_loose_54 : (am_pg z_L_loose).2 54 = some (.iload 6, 56, 6, 0, 0, 0, 0, []) := (congrFun pm_L_loose 54).trans rfl
theorem rl_L_loose_56 : (am_pg z_L_loose).2 56 = some (.iload_n 1, 57, 1, 0, 0, 0, 0, []) := (congrFun pm_L_loose 56).trans rfl
theorem rl_L_loose_57 : (am_pg z_L_loose).2 57 = some (.invokestatic 196, 60, 76, 1, 0, 72, 0, []) := (congrFun pm_L_loose 57).trans rfl
theorem rl_L_loose_60 : (am_pg z_L_loose).2 60 = some (.if_icmp .gt (49), 63, 109, 0, 0, 0, 0, []) := (congrFun pm_L_loose 60).trans rfl
theorem rl_L_loose_63 : (am_pg z_L_loose).2 63 = some (.iload_n 3, 64, 3, 0, 0, 0, 0, []) := (congrFun pm_L_loose 63).trans rfl
theorem rl_L_loose_64 : (am_pg z_L_loose).2 64 = some (.aload_n 0, 65, 0, 0, 0, 0, 0, []) := (congrFun pm_L_loose 64).trans rfl
theorem rl_L_loose_65 : (am_pg z_L_loose).2 65 = some (.getfield 10, 68, 8, 0, 0, 67, 0, []) := (congrFun pm_L_loose 65).trans rfl
theorem rl_L_loose_68 : (am_pg z_L_loose).2 68 = some (.getfield 95, 71, 6, 0, 0, 24, 0, []) := (congrFun pm_L_loose 68).trans rfl
theorem rl_L_loose_71 : (am_pg z_L_loose).2 71 = some (.iload 6, 73, 6, 0, 0, 0, 0, []) := (congrFun pm_L_loose 71).trans rfl
theorem rl_L_loose_73 : (am_pg z_L_loose).2 73 = some (.invokevirtual 150, 76, 237, 1, 1, 47, 0, []) := (congrFun pm_L_loose 73).trans rfl
theorem rl_L_loose_76 : (am_pg z_L_loose).2 76 = some (.iconst (1), 77, 0, 0, 0, 0, 1, []) := (congrFun pm_L_loose 76).trans rfl
theorem rl_L_loose_77 : (am_pg z_L_loose).2 77 = some (.iadd, 78, 0, 0, 0, 0, 0, []) := (congrFun pm_L_loose 77).trans rfl
theorem rl_L_loose_78 : (am_pg z_L_loose).2 78 = some (.invokestatic 285, 81, 74, 2, 0, 125, 0, []) := (congrFun pm_L_loose 78).trans rfl
theorem rl_L_loose_81 : (am_pg z_L_loose).2 81 = some (.ifCond .eq (22), 84, 103, 0, 0, 0, 0, []) := (congrFun pm_L_loose 81).trans rfl
theorem rl_L_loose_84 : (am_pg z_L_loose).2 84 = some (.iinc 4 (1), 87, 4, 0, 0, 0, 1, []) := (congrFun pm_L_loose 84).trans rfl
theorem rl_L_loose_87 : (am_pg z_L_loose).2 87 = some (.iload 5, 89, 5, 0, 0, 0, 0, []) := (congrFun pm_L_loose 87).trans rfl
theorem rl_L_loose_89 : (am_pg z_L_loose).2 89 = some (.bipush (-2), 91, 0, 0, 0, 0, -2, []) := (congrFun pm_L_loose 89).trans rfl
theorem rl_L_loose_91 : (am_pg z_L_loose).2 91 = some (.if_icmp .ne (8), 94, 99, 0, 0, 0, 0, []) := (congrFun pm_L_loose 91).trans rfl
theorem rl_L_loose_94 : (am_pg z_L_loose).2 94 = some (.iload 6, 96, 6, 0, 0, 0, 0, []) := (congrFun pm_L_loose 94).trans rfl
theorem rl_L_loose_96 : (am_pg z_L_loose).2 96 = some (.goto (5), 99, 101, 0, 0, 0, 0, []) := (congrFun pm_L_loose 96).trans rfl
theorem rl_L_loose_99 : (am_pg z_L_loose).2 99 = some (.iload 5, 101, 5, 0, 0, 0, 0, []) := (congrFun pm_L_loose 99).trans rfl
theorem rl_L_loose_101 : (am_pg z_L_loose).2 101 = some (.istore 5, 103, 5, 0, 0, 0, 0, []) := (congrFun pm_L_loose 101).trans rfl
theorem rl_L_loose_103 : (am_pg z_L_loose).2 103 = some (.iinc 6 (1), 106, 6, 0, 0, 0, 1, []) := (congrFun pm_L_loose 103).trans rfl
theorem rl_L_loose_106 : (am_pg z_L_loose).2 106 = some (.goto (-52), 109, 54, 0, 0, 0, 0, []) := (congrFun pm_L_loose 106).trans rfl
theorem rl_L_loose_109 : (am_pg z_L_loose).2 109 = some (.iload_n 2, 110, 2, 0, 0, 0, 0, []) := (congrFun pm_L_loose 109).trans rfl
theorem rl_L_loose_110 : (am_pg z_L_loose).2 110 = some (.ifCond .ne (8), 113, 118, 0, 0, 0, 0, []) := (congrFun pm_L_loose 110).trans rfl
theorem rl_L_loose_113 : (am_pg z_L_loose).2 113 = some (.iload 4, 115, 4, 0, 0, 0, 0, []) := (congrFun pm_L_loose 113).trans rfl
theorem rl_L_loose_115 : (am_pg z_L_loose).2 115 = some (.goto (5), 118, 120, 0, 0, 0, 0, []) := (congrFun pm_L_loose 115).trans rfl
theorem rl_L_loose_118 : (am_pg z_L_loose).2 118 = some (.iload 5, 120, 5, 0, 0, 0, 0, []) := (congrFun pm_L_loose 118).trans rfl
theorem rl_L_loose_120 : (am_pg z_L_loose).2 120 = some (.ireturn, 121, 0, 0, 0, 0, 0, []) := (congrFun pm_L_loose 120).trans rfl
theorem rl_L_nearest_0 : (am_pg z_L_nearest).2 0 = some (.iload_n 1, 1, 1, 0, 0, 0, 0, []) := (congrFun pm_L_nearest 0).trans rfl
theorem rl_L_nearest_1 : (am_pg z_L_nearest).2 1 = some (.invokestatic 190, 4, 68, 1, 0, 70, 0, []) := (congrFun pm_L_nearest 1).trans rfl
theorem rl_L_nearest_4 : (am_pg z_L_nearest).2 4 = some (.ifCond .eq (12), 7, 16, 0, 0, 0, 0, []) := (congrFun pm_L_nearest 4).trans rfl
theorem rl_L_nearest_7 : (am_pg z_L_nearest).2 7 = some (.iload_n 2, 8, 2, 0, 0, 0, 0, []) := (congrFun pm_L_nearest 7).trans rfl
theorem rl_L_nearest_8 : (am_pg z_L_nearest).2 8 = some (.iconst (0), 9, 0, 0, 0, 0, 0, []) := (congrFun pm_L_nearest 8).trans rfl
theorem rl_L_nearest_9 : (am_pg z_L_nearest).2 9 = some (.iconst (1), 10, 0, 0, 0, 0, 1, []) := (congrFun pm_L_nearest 9).trans rfl
theorem rl_L_nearest_10 : (am_pg z_L_nearest).2 10 = some (.invokestatic 133, 13, 65, 3, 0, 16, 0, []) := (congrFun pm_L_nearest 10).trans rfl
theorem rl_L_nearest_13 : (am_pg z_L_nearest).2 13 = some (.ifCond .ne (5), 16, 18, 0, 0, 0, 0, []) := (congrFun pm_L_nearest 13).trans rfl
theorem rl_L_nearest_16 : (am_pg z_L_nearest).2 16 = some (.iconst (-1), 17, 0, 0, 0, 0, -1, []) := (congrFun pm_L_nearest 16).trans rfl
theorem rl_L_nearest_17 : (am_pg z_L_nearest).2 17 = some (.ireturn, 18, 0, 0, 0, 0, 0, []) := (congrFun pm_L_nearest 17).trans rfl
theorem rl_L_nearest_18 : (am_pg z_L_nearest).2 18 = some (.aload_n 0, 19, 0, 0, 0, 0, 0, []) := (congrFun pm_L_nearest 18).trans rfl
theorem rl_L_nearest_19 : (am_pg z_L_nearest).2 19 = some (.getfield 56, 22, 8, 6, 0, 73, 0, []) := (congrFun pm_L_nearest 19).trans rfl
theorem rl_L_nearest_22 : (am_pg z_L_nearest).2 22 = some (.aload_n 0, 23, 0, 0, 0, 0, 0, []) := (congrFun pm_L_nearest 22).trans rfl
theorem rl_L_nearest_23 : (am_pg z_L_nearest).2 23 = some (.getfield 10, 26, 8, 0, 0, 67, 0, []) := (congrFun pm_L_nearest 23).trans rfl
theorem rl_L_nearest_26 : (am_pg z_L_nearest).2 26 = some (.getfield 95, 29, 6, 0, 0, 24, 0, []) := (congrFun pm_L_nearest 26).trans rfl
theorem rl_L_nearest_29 : (am_pg z_L_nearest).2 29 = some (.invokevirtual 245, 32, 210, 1, 0, 100, 0, []) := (congrFun pm_L_nearest 29).trans rfl
theorem rl_L_nearest_32 : (am_pg z_L_nearest).2 32 = some (.bipush (-2), 34, 0, 0, 0, 0, -2, []) := (congrFun pm_L_nearest 32).trans rfl
theorem rl_L_nearest_34 : (am_pg z_L_nearest).2 34 = some (.istore_n 3, 35, 3, 0, 0, 0, 0, []) := (congrFun pm_L_nearest 34).trans rfl
theorem rl_L_nearest_35 : (am_pg z_L_nearest).2 35 = some (.bipush (-2), 37, 0, 0, 0, 0, -2, []) := (congrFun pm_L_nearest 35).trans rfl
theorem rl_L_nearest_37 : (am_pg z_L_nearest).2 37 = some (.istore 4, 39, 4, 0, 0, 0, 0, []) := (congrFun pm_L_nearest 37).trans rfl
theorem rl_L_nearest_39 : (am_pg z_L_nearest).2 39 = some (.iconst (0), 40, 0, 0, 0, 0, 0, []) := (congrFun pm_L_nearest 39).trans rfl
theorem rl_L_nearest_40 : (am_pg z_L_nearest).2 40 = some (.istore 5, 42, 5, 0, 0, 0, 0, []) := (congrFun pm_L_nearest 40).trans rfl
theorem rl_L_nearest_42 : (am_pg z_L_nearest).2 42 = some (.iload 5, 44, 5, 0, 0, 0, 0, []) := (congrFun pm_L_nearest 42).trans rfl
theorem rl_L_nearest_44 : (am_pg z_L_nearest).2 44 = some (.bipush (6), 46, 0, 0, 0, 0, 6, []) := (congrFun pm_L_nearest 44).trans rfl
theorem rl_L_nearest_46 : (am_pg z_L_nearest).2 46 = some (.if_icmp .ge (46), 49, 92, 0, 0, 0, 0, []) := (congrFun pm_L_nearest 46).trans rfl
theorem rl_L_nearest_49 : (am_pg z_L_nearest).2 49 = some (.aload_n 0, 50, 0, 0, 0, 0, 0, []) := (congrFun pm_L_nearest 49).trans rfl
theorem rl_L_nearest_50 : (am_pg z_L_nearest).2 50 = some (.getfield 56, 53, 8, 6, 0, 73, 0, []) := (congrFun pm_L_nearest 50).trans rfl
theorem rl_L_nearest_53 : (am_pg z_L_nearest).2 53 = some (.iload 5, 55, 5, 0, 0, 0, 0, []) := (congrFun pm_L_nearest 53).trans rfl
theorem rl_L_nearest_55 : (am_pg z_L_nearest).2 55 = some (.iload_n 1, 56, 1, 0, 0, 0, 0, []) := (congrFun pm_L_nearest 55).trans rfl
theorem rl_L_nearest_56 : (am_pg z_L_nearest).2 56 = some (.invokevirtual 338, 59, 228, 2, 0, 179, 0, []) := (congrFun pm_L_nearest 56).trans rfl
theorem rl_L_nearest_59 : (am_pg z_L_nearest).2 59 = some (.istore 6, 61, 6, 0, 0, 0, 0, []) := (congrFun pm_L_nearest 59).trans rfl
theorem rl_L_nearest_61 : (am_pg z_L_nearest).2 61 = some (.iload 6, 63, 6, 0, 0, 0, 0, []) := (congrFun pm_L_nearest 61).trans rfl
theorem rl_L_nearest_63 : (am_pg z_L_nearest).2 63 = some (.ifCond .le (23), 66, 86, 0, 0, 0, 0, []) := (congrFun pm_L_nearest 63).trans rfl
theorem rl_L_nearest_66 : (am_pg z_L_nearest).2 66 = some (.iload_n 3, 67, 3, 0, 0, 0, 0, []) := (congrFun pm_L_nearest 66).trans rfl
theorem rl_L_nearest_67 : (am_pg z_L_nearest).2 67 = some (.bipush (-2), 69, 0, 0, 0, 0, -2, []) := (congrFun pm_L_nearest 67).trans rfl
theorem rl_L_nearest_69 : (am_pg z_L_nearest).2 69 = some (.if_icmp .eq (10), 72, 79, 0, 0, 0, 0, []) := (congrFun pm_L_nearest 69).trans rfl
theorem rl_L_nearest_72 : (am_pg z_L_nearest).2 72 = some (.iload 6, 74, 6, 0, 0, 0, 0, []) := (congrFun pm_L_nearest 72).trans rfl
theorem rl_L_nearest_74 : (am_pg z_L_nearest).2 74 = some (.iload 4, 76, 4, 0, 0, 0, 0, []) := (congrFun pm_L_nearest 74).trans rfl
theorem rl_L_nearest_76 : (am_pg z_L_nearest).2 76 = some (.if_icmp .ge (10), 79, 86, 0, 0, 0, 0, []) := (congrFun pm_L_nearest 76).trans rfl
theorem rl_L_nearest_79 : (am_pg z_L_nearest).2 79 = some (.iload 5, 81, 5, 0, 0, 0, 0, []) := (congrFun pm_L_nearest 79).trans rfl
theorem rl_L_nearest_81 : (am_pg z_L_nearest).2 81 = some (.istore_n 3, 82, 3, 0, 0, 0, 0, []) := (congrFun pm_L_nearest 81).trans rfl
theorem rl_L_nearest_82 : (am_pg z_L_nearest).2 82 = some (.iload 6, 84, 6, 0, 0, 0, 0, []) := (congrFun pm_L_nearest 82).trans rfl
theorem rl_L_nearest_84 : (am_pg z_L_nearest).2 84 = some (.istore 4, 86, 4, 0, 0, 0, 0, []) := (congrFun pm_L_nearest 84).trans rfl
theorem rl_L_nearest_86 : (am_pg z_L_nearest).2 86 = some (.iinc 5 (1), 89, 5, 0, 0, 0, 1, []) := (congrFun pm_L_nearest 86).trans rfl
theorem rl_L_nearest_89 : (am_pg z_L_nearest).2 89 = some (.goto (-47), 92, 42, 0, 0, 0, 0, []) := (congrFun pm_L_nearest 89).trans rfl
theorem rl_L_nearest_92 : (am_pg z_L_nearest).2 92 = some (.iload_n 2, 93, 2, 0, 0, 0, 0, []) := (congrFun pm_L_nearest 92).trans rfl
theorem rl_L_nearest_93 : (am_pg z_L_nearest).2 93 = some (.ifCond .ne (7), 96, 100, 0, 0, 0, 0, []) := (congrFun pm_L_nearest 93).trans rfl
theorem rl_L_nearest_96 : (am_pg z_L_nearest).2 96 = some (.iload_n 3, 97, 3, 0, 0, 0, 0, []) := (congrFun pm_L_nearest 96).trans rfl
theorem rl_L_nearest_97 : (am_pg z_L_nearest).2 97 = some (.goto (5), 100, 102, 0, 0, 0, 0, []) := (congrFun pm_L_nearest 97).trans rfl
theorem rl_L_nearest_100 : (am_pg z_L_nearest).2 100 = some (.iload 4, 102, 4, 0, 0, 0, 0, []) := (congrFun pm_L_nearest 100).trans rfl
theorem rl_L_nearest_102 : (am_pg z_L_nearest).2 102 = some (.ireturn, 103, 0, 0, 0, 0, 0, []) := (congrFun pm_L_nearest 102).trans rfl
theorem rl_L_instead_0 : (am_pg z_L_instead).2 0 = some (.iload_n 1, 1, 1, 0, 0, 0, 0, []) := (congrFun pm_L_instead 0).trans rfl
theorem rl_L_instead_1 : (am_pg z_L_instead).2 1 = some (.invokestatic 113, 4, 69, 1, 0, 37, 0, []) := (congrFun pm_L_instead 1).trans rfl
theorem rl_L_instead_4 : (am_pg z_L_instead).2 4 = some (.ifCond .eq (32), 7, 36, 0, 0, 0, 0, []) := (congrFun pm_L_instead 4).trans rfl
theorem rl_L_instead_7 : (am_pg z_L_instead).2 7 = some (.iload_n 2, 8, 2, 0, 0, 0, 0, []) := (congrFun pm_L_instead 7).trans rfl
theorem rl_L_instead_8 : (am_pg z_L_instead).2 8 = some (.invokestatic 102, 11, 70, 1, 0, 32, 0, []) := (congrFun pm_L_instead 8).trans rfl
theorem rl_L_instead_11 : (am_pg z_L_instead).2 11 = some (.ifCond .eq (25), 14, 36, 0, 0, 0, 0, []) := (congrFun pm_L_instead 11).trans rfl
theorem rl_L_instead_14 : (am_pg z_L_instead).2 14 = some (.iload_n 1, 15, 1, 0, 0, 0, 0, []) := (congrFun pm_L_instead 14).trans rfl
theorem rl_L_instead_15 : (am_pg z_L_instead).2 15 = some (.iload_n 2, 16, 2, 0, 0, 0, 0, []) := (congrFun pm_L_instead 15).trans rfl
theorem rl_L_instead_16 : (am_pg z_L_instead).2 16 = some (.if_icmp .eq (20), 19, 36, 0, 0, 0, 0, []) := (congrFun pm_L_instead 16).trans rfl
theorem rl_L_instead_19 : (am_pg z_L_instead).2 19 = some (.iload_n 3, 20, 3, 0, 0, 0, 0, []) := (congrFun pm_L_instead 19).trans rfl
theorem rl_L_instead_20 : (am_pg z_L_instead).2 20 = some (.iload 4, 22, 4, 0, 0, 0, 0, []) := (congrFun pm_L_instead 20).trans rfl
theorem rl_L_instead_22 : (am_pg z_L_instead).2 22 = some (.invokestatic 105, 25, 67, 2, 0, 33, 0, []) := (congrFun pm_L_instead 22).trans rfl
theorem rl_L_instead_25 : (am_pg z_L_instead).2 25 = some (.ifCond .eq (11), 28, 36, 0, 0, 0, 0, []) := (congrFun pm_L_instead 25).trans rfl
theorem rl_L_instead_28 : (am_pg z_L_instead).2 28 = some (.iload 5, 30, 5, 0, 0, 0, 0, []) := (congrFun pm_L_instead 28).trans rfl
theorem rl_L_instead_30 : (am_pg z_L_instead).2 30 = some (.invokestatic 347, 33, 73, 1, 0, 188, 0, []) := (congrFun pm_L_instead 30).trans rfl
theorem rl_L_instead_33 : (am_pg z_L_instead).2 33 = some (.ifCond .ne (5), 36, 38, 0, 0, 0, 0, []) := (congrFun pm_L_instead 33).trans rfl
theorem rl_L_instead_36 : (am_pg z_L_instead).2 36 = some (.iconst (-1), 37, 0, 0, 0, 0, -1, []) := (congrFun pm_L_instead 36).trans rfl
theorem rl_L_instead_37 : (am_pg z_L_instead).2 37 = some (.ireturn, 38, 0, 0, 0, 0, 0, []) := (congrFun pm_L_instead 37).trans rfl
theorem rl_L_instead_38 : (am_pg z_L_instead).2 38 = some (.aload_n 0, 39, 0, 0, 0, 0, 0, []) := (congrFun pm_L_instead 38).trans rfl
theorem rl_L_instead_39 : (am_pg z_L_instead).2 39 = some (.getfield 76, 42, 8, 8, 0, 75, 0, []) := (congrFun pm_L_instead 39).trans rfl
theorem rl_L_instead_42 : (am_pg z_L_instead).2 42 = some (.aload_n 0, 43, 0, 0, 0, 0, 0, []) := (congrFun pm_L_instead 42).trans rfl
theorem rl_L_instead_43 : (am_pg z_L_instead).2 43 = some (.getfield 10, 46, 8, 0, 0, 67, 0, []) := (congrFun pm_L_instead 43).trans rfl
theorem rl_L_instead_46 : (am_pg z_L_instead).2 46 = some (.getfield 95, 49, 6, 0, 0, 24, 0, []) := (congrFun pm_L_instead 46).trans rfl
theorem rl_L_instead_49 : (am_pg z_L_instead).2 49 = some (.invokevirtual 257, 52, 234, 1, 1, 112, 0, []) := (congrFun pm_L_instead 49).trans rfl
theorem rl_L_instead_52 : (am_pg z_L_instead).2 52 = some (.iload_n 3, 53, 3, 0, 0, 0, 0, []) := (congrFun pm_L_instead 52).trans rfl
theorem rl_L_instead_53 : (am_pg z_L_instead).2 53 = some (.istore 6, 55, 6, 0, 0, 0, 0, []) := (congrFun pm_L_instead 53).trans rfl
theorem rl_L_instead_55 : (am_pg z_L_instead).2 55 = some (.iload 6, 57, 6, 0, 0, 0, 0, []) := (congrFun pm_L_instead 55).trans rfl
theorem rl_L_instead_57 : (am_pg z_L_instead).2 57 = some (.iload 4, 59, 4, 0, 0, 0, 0, []) := (congrFun pm_L_instead 57).trans rfl
theorem rl_L_instead_59 : (am_pg z_L_instead).2 59 = some (.if_icmp .gt (34), 62, 93, 0, 0, 0, 0, []) := (congrFun pm_L_instead 59).trans rfl
theorem rl_L_instead_62 : (am_pg z_L_instead).2 62 = some (.aload_n 0, 63, 0, 0, 0, 0, 0, []) := (congrFun pm_L_instead 62).trans rfl
theorem rl_L_instead_63 : (am_pg z_L_instead).2 63 = some (.getfield 76, 66, 8, 8, 0, 75, 0, []) := (congrFun pm_L_instead 63).trans rfl
theorem rl_L_instead_66 : (am_pg z_L_instead).2 66 = some (.getfield 260, 69, 1, 0, 0, 3, 0, []) := (congrFun pm_L_instead 66).trans rfl
theorem rl_L_instead_69 : (am_pg z_L_instead).2 69 = some (.iload 6, 71, 6, 0, 0, 0, 0, []) := (congrFun pm_L_instead 69).trans rfl
theorem rl_L_instead_71 : (am_pg z_L_instead).2 71 = some (.iaload, 72, 0, 0, 0, 0, 0, []) := (congrFun pm_L_instead 71).trans rfl
theorem rl_L_instead_72 : (am_pg z_L_instead).2 72 = some (.iload_n 1, 73, 1, 0, 0, 0, 0, []) := (congrFun pm_L_instead 72).trans rfl
theorem rl_L_instead_73 : (am_pg z_L_instead).2 73 = some (.if_icmp .ne (14), 76, 87, 0, 0, 0, 0, []) := (congrFun pm_L_instead 73).trans rfl
theorem rl_L_instead_76 : (am_pg z_L_instead).2 76 = some (.aload_n 0, 77, 0, 0, 0, 0, 0, []) := (congrFun pm_L_instead 76).trans rfl
theorem rl_L_instead_77 : (am_pg z_L_instead).2 77 = some (.getfield 76, 80, 8, 8, 0, 75, 0, []) := (congrFun pm_L_instead 77).trans rfl
theorem rl_L_instead_80 : (am_pg z_L_instead).2 80 = some (.getfield 260, 83, 1, 0, 0, 3, 0, []) := (congrFun pm_L_instead 80).trans rfl
theorem rl_L_instead_83 : (am_pg z_L_instead).2 83 = some (.iload 6, 85, 6, 0, 0, 0, 0, []) := (congrFun pm_L_instead 83).trans rfl
theorem rl_L_instead_85 : (am_pg z_L_instead).2 85 = some (.iload_n 2, 86, 2, 0, 0, 0, 0, []) := (congrFun pm_L_instead 85).trans rfl
theorem rl_L_instead_86 : (am_pg z_L_instead).2 86 = some (.iastore, 87, 0, 0, 0, 0, 0, []) := (congrFun pm_L_instead 86).trans rfl
theorem rl_L_instead_87 : (am_pg z_L_instead).2 87 = some (.iinc 6 (1), 90, 6, 0, 0, 0, 1, []) := (congrFun pm_L_instead 87).trans rfl
theorem rl_L_instead_90 : (am_pg z_L_instead).2 90 = some (.goto (-35), 93, 55, 0, 0, 0, 0, []) := (congrFun pm_L_instead 90).trans rfl
theorem rl_L_instead_93 : (am_pg z_L_instead).2 93 = some (.aload_n 0, 94, 0, 0, 0, 0, 0, []) := (congrFun pm_L_instead 93).trans rfl
theorem rl_L_instead_94 : (am_pg z_L_instead).2 94 = some (.iload 5, 96, 5, 0, 0, 0, 0, []) := (congrFun pm_L_instead 94).trans rfl
theorem rl_L_instead_96 : (am_pg z_L_instead).2 96 = some (.invokevirtual 350, 99, 60, 1, 8, 189, 0, []) := (congrFun pm_L_instead 96).trans rfl
theorem rl_L_instead_99 : (am_pg z_L_instead).2 99 = some (.ireturn, 100, 0, 0, 0, 0, 0, []) := (congrFun pm_L_instead 99).trans rfl
theorem rl_L_trip_0 : (am_pg z_L_trip).2 0 = some (.aload_n 0, 1, 0, 0, 0, 0, 0, []) := (congrFun pm_L_trip 0).trans rfl
theorem rl_L_trip_1 : (am_pg z_L_trip).2 1 = some (.iload_n 1, 2, 1, 0, 0, 0, 0, []) := (congrFun pm_L_trip 1).trans rfl
theorem rl_L_trip_2 : (am_pg z_L_trip).2 2 = some (.invokevirtual 87, 5, 63, 1, 8, 15, 0, []) := (congrFun pm_L_trip 2).trans rfl
theorem rl_L_trip_5 : (am_pg z_L_trip).2 5 = some (.ifCond .eq (10), 8, 15, 0, 0, 0, 0, []) := (congrFun pm_L_trip 5).trans rfl
theorem rl_L_trip_8 : (am_pg z_L_trip).2 8 = some (.iload_n 2, 9, 2, 0, 0, 0, 0, []) := (congrFun pm_L_trip 8).trans rfl
theorem rl_L_trip_9 : (am_pg z_L_trip).2 9 = some (.invokestatic 347, 12, 73, 1, 0, 188, 0, []) := (congrFun pm_L_trip 9).trans rfl
theorem rl_L_trip_12 : (am_pg z_L_trip).2 12 = some (.ifCond .ne (5), 15, 17, 0, 0, 0, 0, []) := (congrFun pm_L_trip 12).trans rfl
theorem rl_L_trip_15 : (am_pg z_L_trip).2 15 = some (.iconst (-1), 16, 0, 0, 0, 0, -1, []) := (congrFun pm_L_trip 15).trans rfl
theorem rl_L_trip_16 : (am_pg z_L_trip).2 16 = some (.ireturn, 17, 0, 0, 0, 0, 0, []) := (congrFun pm_L_trip 16).trans rfl
theorem rl_L_trip_17 : (am_pg z_L_trip).2 17 = some (.aload_n 0, 18, 0, 0, 0, 0, 0, []) := (congrFun pm_L_trip 17).trans rfl
theorem rl_L_trip_18 : (am_pg z_L_trip).2 18 = some (.getfield 40, 21, 8, 4, 0, 71, 0, []) := (congrFun pm_L_trip 18).trans rfl
theorem rl_L_trip_21 : (am_pg z_L_trip).2 21 = some (.iload_n 1, 22, 1, 0, 0, 0, 0, []) := (congrFun pm_L_trip 21).trans rfl
theorem rl_L_trip_22 : (am_pg z_L_trip).2 22 = some (.invokevirtual 91, 25, 245, 1, 2, 17, 0, []) := (congrFun pm_L_trip 22).trans rfl
theorem rl_L_trip_25 : (am_pg z_L_trip).2 25 = some (.istore_n 3, 26, 3, 0, 0, 0, 0, []) := (congrFun pm_L_trip 25).trans rfl
theorem rl_L_trip_26 : (am_pg z_L_trip).2 26 = some (.aload_n 0, 27, 0, 0, 0, 0, 0, []) := (congrFun pm_L_trip 26).trans rfl
theorem rl_L_trip_27 : (am_pg z_L_trip).2 27 = some (.getfield 27, 30, 8, 3, 0, 70, 0, []) := (congrFun pm_L_trip 27).trans rfl
theorem rl_L_trip_30 : (am_pg z_L_trip).2 30 = some (.iconst (0), 31, 0, 0, 0, 0, 0, []) := (congrFun pm_L_trip 30).trans rfl
theorem rl_L_trip_31 : (am_pg z_L_trip).2 31 = some (.putfield 80, 34, 7, 1, 0, 41, 0, []) := (congrFun pm_L_trip 31).trans rfl
theorem rl_L_trip_34 : (am_pg z_L_trip).2 34 = some (.iload_n 3, 35, 3, 0, 0, 0, 0, []) := (congrFun pm_L_trip 34).trans rfl
theorem rl_L_trip_35 : (am_pg z_L_trip).2 35 = some (.ifCond .ge (5), 38, 40, 0, 0, 0, 0, []) := (congrFun pm_L_trip 35).trans rfl
theorem rl_L_trip_38 : (am_pg z_L_trip).2 38 = some (.iload_n 3, 39, 3, 0, 0, 0, 0, []) := (congrFun pm_L_trip 38).trans rfl
theorem rl_L_trip_39 : (am_pg z_L_trip).2 39 = some (.ireturn, 40, 0, 0, 0, 0, 0, []) := (congrFun pm_L_trip 39).trans rfl
theorem rl_L_trip_40 : (am_pg z_L_trip).2 40 = some (.aload_n 0, 41, 0, 0, 0, 0, 0, []) := (congrFun pm_L_trip 40).trans rfl
theorem rl_L_trip_41 : (am_pg z_L_trip).2 41 = some (.getfield 76, 44, 8, 8, 0, 75, 0, []) := (congrFun pm_L_trip 41).trans rfl
theorem rl_L_trip_44 : (am_pg z_L_trip).2 44 = some (.aload_n 0, 45, 0, 0, 0, 0, 0, []) := (congrFun pm_L_trip 44).trans rfl
theorem rl_L_trip_45 : (am_pg z_L_trip).2 45 = some (.getfield 10, 48, 8, 0, 0, 67, 0, []) := (congrFun pm_L_trip 45).trans rfl
theorem rl_L_trip_48 : (am_pg z_L_trip).2 48 = some (.getfield 95, 51, 6, 0, 0, 24, 0, []) := (congrFun pm_L_trip 48).trans rfl
theorem rl_L_trip_51 : (am_pg z_L_trip).2 51 = some (.invokevirtual 257, 54, 234, 1, 1, 112, 0, []) := (congrFun pm_L_trip 51).trans rfl
theorem rl_L_trip_54 : (am_pg z_L_trip).2 54 = some (.aload_n 0, 55, 0, 0, 0, 0, 0, []) := (congrFun pm_L_trip 54).trans rfl
theorem rl_L_trip_55 : (am_pg z_L_trip).2 55 = some (.getfield 40, 58, 8, 4, 0, 71, 0, []) := (congrFun pm_L_trip 55).trans rfl
theorem rl_L_trip_58 : (am_pg z_L_trip).2 58 = some (.aload_n 0, 59, 0, 0, 0, 0, 0, []) := (congrFun pm_L_trip 58).trans rfl
theorem rl_L_trip_59 : (am_pg z_L_trip).2 59 = some (.getfield 76, 62, 8, 8, 0, 75, 0, []) := (congrFun pm_L_trip 59).trans rfl
theorem rl_L_trip_62 : (am_pg z_L_trip).2 62 = some (.invokevirtual 98, 65, 246, 1, 2, 29, 0, []) := (congrFun pm_L_trip 62).trans rfl
theorem rl_L_trip_65 : (am_pg z_L_trip).2 65 = some (.aload_n 0, 66, 0, 0, 0, 0, 0, []) := (congrFun pm_L_trip 65).trans rfl
theorem rl_L_trip_66 : (am_pg z_L_trip).2 66 = some (.iload_n 2, 67, 2, 0, 0, 0, 0, []) := (congrFun pm_L_trip 66).trans rfl
theorem rl_L_trip_67 : (am_pg z_L_trip).2 67 = some (.invokevirtual 350, 70, 60, 1, 8, 189, 0, []) := (congrFun pm_L_trip 67).trans rfl
theorem rl_L_trip_70 : (am_pg z_L_trip).2 70 = some (.ireturn, 71, 0, 0, 0, 0, 0, []) := (congrFun pm_L_trip 70).trans rfl
theorem rl_L_cheapest_0 : (am_pg z_L_cheapest).2 0 = some (.iload_n 1, 1, 1, 0, 0, 0, 0, []) := (congrFun pm_L_cheapest 0).trans rfl
theorem rl_L_cheapest_1 : (am_pg z_L_cheapest).2 1 = some (.iload_n 2, 2, 2, 0, 0, 0, 0, []) := (congrFun pm_L_cheapest 1).trans rfl
theorem rl_L_cheapest_2 : (am_pg z_L_cheapest).2 2 = some (.invokestatic 105, 5, 67, 2, 0, 33, 0, []) := (congrFun pm_L_cheapest 2).trans rfl
theorem rl_L_cheapest_5 : (am_pg z_L_cheapest).2 5 = some (.ifCond .eq (12), 8, 17, 0, 0, 0, 0, []) := (congrFun pm_L_cheapest 5).trans rfl
theorem rl_L_cheapest_8 : (am_pg z_L_cheapest).2 8 = some (.iload_n 3, 9, 3, 0, 0, 0, 0, []) := (congrFun pm_L_cheapest 8).trans rfl
theorem rl_L_cheapest_9 : (am_pg z_L_cheapest).2 9 = some (.iconst (0), 10, 0, 0, 0, 0, 0, []) := (congrFun pm_L_cheapest 9).trans rfl
theorem rl_L_cheapest_10 : (am_pg z_L_cheapest).2 10 = some (.iconst (1), 11, 0, 0, 0, 0, 1, []) := (congrFun pm_L_cheapest 10).trans rfl
theorem rl_L_cheapest_11 : (am_pg z_L_cheapest).2 11 = some (.invokestatic 133, 14, 65, 3, 0, 16, 0, []) := (congrFun pm_L_cheapest 11).trans rfl
theorem rl_L_cheapest_14 : (am_pg z_L_cheapest).2 14 = some (.ifCond .ne (5), 17, 19, 0, 0, 0, 0, []) := (congrFun pm_L_cheapest 14).trans rfl
theorem rl_L_cheapest_17 : (am_pg z_L_cheapest).2 17 = some (.iconst (-1), 18, 0, 0, 0, 0, -1, []) := (congrFun pm_L_cheapest 17).trans rfl
theorem rl_L_cheapest_18 : (am_pg z_L_cheapest).2 18 = some (.ireturn, 19, 0, 0, 0, 0, 0, []) := (congrFun pm_L_cheapest 18).trans rfl
theorem rl_L_cheapest_19 : (am_pg z_L_cheapest).2 19 = some (.aload_n 0, 20, 0, 0, 0, 0, 0, []) := (congrFun pm_L_cheapest 19).trans rfl
theorem rl_L_cheapest_20 : (am_pg z_L_cheapest).2 20 = some (.getfield 76, 23, 8, 8, 0, 75, 0, []) := (congrFun pm_L_cheapest 20).trans rfl
theorem rl_L_cheapest_23 : (am_pg z_L_cheapest).2 23 = some (.aload_n 0, 24, 0, 0, 0, 0, 0, []) := (congrFun pm_L_cheapest 23).trans rfl
theorem rl_L_cheapest_24 : (am_pg z_L_cheapest).2 24 = some (.getfield 10, 27, 8, 0, 0, 67, 0, []) := (congrFun pm_L_cheapest 24).trans rfl
theorem rl_L_cheapest_27 : (am_pg z_L_cheapest).2 27 = some (.getfield 95, 30, 6, 0, 0, 24, 0, []) := (congrFun pm_L_cheapest 27).trans rfl
theorem rl_L_cheapest_30 : (am_pg z_L_cheapest).2 30 = some (.invokevirtual 257, 33, 234, 1, 1, 112, 0, []) := (congrFun pm_L_cheapest 30).trans rfl
theorem rl_L_cheapest_33 : (am_pg z_L_cheapest).2 33 = some (.aload_n 0, 34, 0, 0, 0, 0, 0, []) := (congrFun pm_L_cheapest 33).trans rfl
theorem rl_L_cheapest_34 : (am_pg z_L_cheapest).2 34 = some (.getfield 56, 37, 8, 6, 0, 73, 0, []) := (congrFun pm_L_cheapest 34).trans rfl
theorem rl_L_cheapest_37 : (am_pg z_L_cheapest).2 37 = some (.invokevirtual 353, 40, 212, 0, 0, 196, 0, []) := (congrFun pm_L_cheapest 37).trans rfl
theorem rl_L_cheapest_40 : (am_pg z_L_cheapest).2 40 = some (.iconst (0), 41, 0, 0, 0, 0, 0, []) := (congrFun pm_L_cheapest 40).trans rfl
theorem rl_L_cheapest_41 : (am_pg z_L_cheapest).2 41 = some (.istore 4, 43, 4, 0, 0, 0, 0, []) := (congrFun pm_L_cheapest 41).trans rfl
theorem rl_L_cheapest_43 : (am_pg z_L_cheapest).2 43 = some (.iconst (-1), 44, 0, 0, 0, 0, -1, []) := (congrFun pm_L_cheapest 43).trans rfl
theorem rl_L_cheapest_44 : (am_pg z_L_cheapest).2 44 = some (.istore 5, 46, 5, 0, 0, 0, 0, []) := (congrFun pm_L_cheapest 44).trans rfl
theorem rl_L_cheapest_46 : (am_pg z_L_cheapest).2 46 = some (.iconst (0), 47, 0, 0, 0, 0, 0, []) := (congrFun pm_L_cheapest 46).trans rfl
theorem rl_L_cheapest_47 : (am_pg z_L_cheapest).2 47 = some (.istore 6, 49, 6, 0, 0, 0, 0, []) := (congrFun pm_L_cheapest 47).trans rfl
theorem rl_L_cheapest_49 : (am_pg z_L_cheapest).2 49 = some (.iload 6, 51, 6, 0, 0, 0, 0, []) := (congrFun pm_L_cheapest 49).trans rfl
theorem rl_L_cheapest_51 : (am_pg z_L_cheapest).2 51 = some (.bipush (6), 53, 0, 0, 0, 0, 6, []) := (congrFun pm_L_cheapest 51).trans rfl
theorem rl_L_cheapest_53 : (am_pg z_L_cheapest).2 53 = some (.if_icmp .ge (59), 56, 112, 0, 0, 0, 0, []) := (congrFun pm_L_cheapest 53).trans rfl
theorem rl_L_cheapest_56 : (am_pg z_L_cheapest).2 56 = some (.aload_n 0, 57, 0, 0, 0, 0, 0, []) := (congrFun pm_L_cheapest 56).trans rfl
theorem rl_L_cheapest_57 : (am_pg z_L_cheapest).2 57 = some (.getfield 76, 60, 8, 8, 0, 75, 0, []) := (congrFun pm_L_cheapest 57).trans rfl
theorem rl_L_cheapest_60 : (am_pg z_L_cheapest).2 60 = some (.iload 6, 62, 6, 0, 0, 0, 0, []) := (congrFun pm_L_cheapest 60).trans rfl
theorem rl_L_cheapest_62 : (am_pg z_L_cheapest).2 62 = some (.iload_n 1, 63, 1, 0, 0, 0, 0, []) := (congrFun pm_L_cheapest 62).trans rfl
theorem rl_L_cheapest_63 : (am_pg z_L_cheapest).2 63 = some (.iload_n 2, 64, 2, 0, 0, 0, 0, []) := (congrFun pm_L_cheapest 63).trans rfl
theorem rl_L_cheapest_64 : (am_pg z_L_cheapest).2 64 = some (.invokevirtual 109, 67, 236, 3, 1, 35, 0, []) := (congrFun pm_L_cheapest 64).trans rfl
theorem rl_L_cheapest_67 : (am_pg z_L_cheapest).2 67 = some (.pop, 68, 0, 0, 0, 0, 0, []) := (congrFun pm_L_cheapest 67).trans rfl
theorem rl_L_cheapest_68 : (am_pg z_L_cheapest).2 68 = some (.aload_n 0, 69, 0, 0, 0, 0, 0, []) := (congrFun pm_L_cheapest 68).trans rfl
theorem rl_L_cheapest_69 : (am_pg z_L_cheapest).2 69 = some (.getfield 56, 72, 8, 6, 0, 73, 0, []) := (congrFun pm_L_cheapest 69).trans rfl
theorem rl_L_cheapest_72 : (am_pg z_L_cheapest).2 72 = some (.aload_n 0, 73, 0, 0, 0, 0, 0, []) := (congrFun pm_L_cheapest 72).trans rfl
theorem rl_L_cheapest_73 : (am_pg z_L_cheapest).2 73 = some (.getfield 76, 76, 8, 8, 0, 75, 0, []) := (congrFun pm_L_cheapest 73).trans rfl
theorem rl_L_cheapest_76 : (am_pg z_L_cheapest).2 76 = some (.invokevirtual 356, 79, 211, 1, 0, 197, 0, []) := (congrFun pm_L_cheapest 76).trans rfl
theorem rl_L_cheapest_79 : (am_pg z_L_cheapest).2 79 = some (.aload_n 0, 80, 0, 0, 0, 0, 0, []) := (congrFun pm_L_cheapest 79).trans rfl
theorem rl_L_cheapest_80 : (am_pg z_L_cheapest).2 80 = some (.invokevirtual 359, 83, 61, 0, 8, 193, 0, []) := (congrFun pm_L_cheapest 80).trans rfl
theorem rl_L_cheapest_83 : (am_pg z_L_cheapest).2 83 = some (.istore 7, 85, 7, 0, 0, 0, 0, []) := (congrFun pm_L_cheapest 83).trans rfl
theorem rl_L_cheapest_85 : (am_pg z_L_cheapest).2 85 = some (.iload 5, 87, 5, 0, 0, 0, 0, []) := (congrFun pm_L_cheapest 85).trans rfl
theorem rl_L_cheapest_87 : (am_pg z_L_cheapest).2 87 = some (.iconst (-1), 88, 0, 0, 0, 0, -1, []) := (congrFun pm_L_cheapest 87).trans rfl
theorem rl_L_cheapest_88 : (am_pg z_L_cheapest).2 88 = some (.if_icmp .eq (10), 91, 98, 0, 0, 0, 0, []) := (congrFun pm_L_cheapest 88).trans rfl
theorem rl_L_cheapest_91 : (am_pg z_L_cheapest).2 91 = some (.iload 7, 93, 7, 0, 0, 0, 0, []) := (congrFun pm_L_cheapest 91).trans rfl
theorem rl_L_cheapest_93 : (am_pg z_L_cheapest).2 93 = some (.iload 5, 95, 5, 0, 0, 0, 0, []) := (congrFun pm_L_cheapest 93).trans rfl
theorem rl_L_cheapest_95 : (am_pg z_L_cheapest).2 95 = some (.if_icmp .ge (11), 98, 106, 0, 0, 0, 0, []) := (congrFun pm_L_cheapest 95).trans rfl
theorem rl_L_cheapest_98 : (am_pg z_L_cheapest).2 98 = some (.iload 6, 100, 6, 0, 0, 0, 0, []) := (congrFun pm_L_cheapest 98).trans rfl
theorem rl_L_cheapest_100 : (am_pg z_L_cheapest).2 100 = some (.istore 4, 102, 4, 0, 0, 0, 0, []) := (congrFun pm_L_cheapest 100).trans rfl
theorem rl_L_cheapest_102 : (am_pg z_L_cheapest).2 102 = some (.iload 7, 104, 7, 0, 0, 0, 0, []) := (congrFun pm_L_cheapest 102).trans rfl
theorem rl_L_cheapest_104 : (am_pg z_L_cheapest).2 104 = some (.istore 5, 106, 5, 0, 0, 0, 0, []) := (congrFun pm_L_cheapest 104).trans rfl
theorem rl_L_cheapest_106 : (am_pg z_L_cheapest).2 106 = some (.iinc 6 (1), 109, 6, 0, 0, 0, 1, []) := (congrFun pm_L_cheapest 106).trans rfl
theorem rl_L_cheapest_109 : (am_pg z_L_cheapest).2 109 = some (.goto (-60), 112, 49, 0, 0, 0, 0, []) := (congrFun pm_L_cheapest 109).trans rfl
theorem rl_L_cheapest_112 : (am_pg z_L_cheapest).2 112 = some (.iload_n 3, 113, 3, 0, 0, 0, 0, []) := (congrFun pm_L_cheapest 112).trans rfl
theorem rl_L_cheapest_113 : (am_pg z_L_cheapest).2 113 = some (.ifCond .ne (8), 116, 121, 0, 0, 0, 0, []) := (congrFun pm_L_cheapest 113).trans rfl
theorem rl_L_cheapest_116 : (am_pg z_L_cheapest).2 116 = some (.iload 4, 118, 4, 0, 0, 0, 0, []) := (congrFun pm_L_cheapest 116).trans rfl
theorem rl_L_cheapest_118 : (am_pg z_L_cheapest).2 118 = some (.goto (5), 121, 123, 0, 0, 0, 0, []) := (congrFun pm_L_cheapest 118).trans rfl
theorem rl_L_cheapest_121 : (am_pg z_L_cheapest).2 121 = some (.iload 5, 123, 5, 0, 0, 0, 0, []) := (congrFun pm_L_cheapest 121).trans rfl
theorem rl_L_cheapest_123 : (am_pg z_L_cheapest).2 123 = some (.ireturn, 124, 0, 0, 0, 0, 0, []) := (congrFun pm_L_cheapest 123).trans rfl
theorem rl_L_count_0 : (am_pg z_L_count).2 0 = some (.iload_n 1, 1, 1, 0, 0, 0, 0, []) := (congrFun pm_L_count 0).trans rfl
theorem rl_L_count_1 : (am_pg z_L_count).2 1 = some (.tableswitch (106) (0) (5) #[39, 59, 70, 82, 93, 101], 40, 107, 0, 0, 0, 0, [(0, 40), (1, 60), (2, 71), (3, 83), (4, 94), (5, 102)]) := (congrFun pm_L_count 1).trans rfl
theorem rl_L_count_40 : (am_pg z_L_count).2 40 = some (.sipush (1080), 43, 0, 0, 0, 0, 1080, []) := (congrFun pm_L_count 40).trans rfl
theorem rl_L_count_43 : (am_pg z_L_count).2 43 = some (.aload_n 0, 44, 0, 0, 0, 0, 0, []) := (congrFun pm_L_count 43).trans rfl
theorem rl_L_count_44 : (am_pg z_L_count).2 44 = some (.getfield 10, 47, 8, 0, 0, 67, 0, []) := (congrFun pm_L_count 44).trans rfl
theorem rl_L_count_47 : (am_pg z_L_count).2 47 = some (.getfield 95, 50, 6, 0, 0, 24, 0, []) := (congrFun pm_L_count 47).trans rfl
theorem rl_L_count_50 : (am_pg z_L_count).2 50 = some (.iconst (-1), 51, 0, 0, 0, 0, -1, []) := (congrFun pm_L_count 50).trans rfl
theorem rl_L_count_51 : (am_pg z_L_count).2 51 = some (.iconst (0), 52, 0, 0, 0, 0, 0, []) := (congrFun pm_L_count 51).trans rfl
theorem rl_L_count_52 : (am_pg z_L_count).2 52 = some (.sipush (1079), 55, 0, 0, 0, 0, 1079, []) := (congrFun pm_L_count 52).trans rfl
theorem rl_L_count_55 : (am_pg z_L_count).2 55 = some (.invokevirtual 224, 58, 241, 3, 1, 83, 0, []) := (congrFun pm_L_count 55).trans rfl
theorem rl_L_count_58 : (am_pg z_L_count).2 58 = some (.isub, 59, 0, 0, 0, 0, 0, []) := (congrFun pm_L_count 58).trans rfl
theorem rl_L_count_59 : (am_pg z_L_count).2 59 = some (.ireturn, 60, 0, 0, 0, 0, 0, []) := (congrFun pm_L_count 59).trans rfl
theorem rl_L_count_60 : (am_pg z_L_count).2 60 = some (.aload_n 0, 61, 0, 0, 0, 0, 0, []) := (congrFun pm_L_count 60).trans rfl
theorem rl_L_count_61 : (am_pg z_L_count).2 61 = some (.getfield 10, 64, 8, 0, 0, 67, 0, []) := (congrFun pm_L_count 61).trans rfl
theorem rl_L_count_64 : (am_pg z_L_count).2 64 = some (.getfield 62, 67, 6, 4, 0, 35, 0, []) := (congrFun pm_L_count 64).trans rfl
theorem rl_L_count_67 : (am_pg z_L_count).2 67 = some (.getfield 130, 70, 4, 7, 0, 21, 0, []) := (congrFun pm_L_count 67).trans rfl
theorem rl_L_count_70 : (am_pg z_L_count).2 70 = some (.ireturn, 71, 0, 0, 0, 0, 0, []) := (congrFun pm_L_count 70).trans rfl
theorem rl_L_count_71 : (am_pg z_L_count).2 71 = some (.aload_n 0, 72, 0, 0, 0, 0, 0, []) := (congrFun pm_L_count 71).trans rfl
theorem rl_L_count_72 : (am_pg z_L_count).2 72 = some (.aload_n 0, 73, 0, 0, 0, 0, 0, []) := (congrFun pm_L_count 72).trans rfl
theorem rl_L_count_73 : (am_pg z_L_count).2 73 = some (.getfield 10, 76, 8, 0, 0, 67, 0, []) := (congrFun pm_L_count 73).trans rfl
theorem rl_L_count_76 : (am_pg z_L_count).2 76 = some (.getfield 95, 79, 6, 0, 0, 24, 0, []) := (congrFun pm_L_count 76).trans rfl
theorem rl_L_count_79 : (am_pg z_L_count).2 79 = some (.invokevirtual 362, 82, 62, 1, 8, 190, 0, []) := (congrFun pm_L_count 79).trans rfl
theorem rl_L_count_82 : (am_pg z_L_count).2 82 = some (.ireturn, 83, 0, 0, 0, 0, 0, []) := (congrFun pm_L_count 82).trans rfl
theorem rl_L_count_83 : (am_pg z_L_count).2 83 = some (.aload_n 0, 84, 0, 0, 0, 0, 0, []) := (congrFun pm_L_count 83).trans rfl
theorem rl_L_count_84 : (am_pg z_L_count).2 84 = some (.getfield 10, 87, 8, 0, 0, 67, 0, []) := (congrFun pm_L_count 84).trans rfl
theorem rl_L_count_87 : (am_pg z_L_count).2 87 = some (.getfield 95, 90, 6, 0, 0, 24, 0, []) := (congrFun pm_L_count 87).trans rfl
theorem rl_L_count_90 : (am_pg z_L_count).2 90 = some (.invokevirtual 298, 93, 240, 0, 1, 134, 0, []) := (congrFun pm_L_count 90).trans rfl
theorem rl_L_count_93 : (am_pg z_L_count).2 93 = some (.ireturn, 94, 0, 0, 0, 0, 0, []) := (congrFun pm_L_count 93).trans rfl
theorem rl_L_count_94 : (am_pg z_L_count).2 94 = some (.aload_n 0, 95, 0, 0, 0, 0, 0, []) := (congrFun pm_L_count 94).trans rfl
theorem rl_L_count_95 : (am_pg z_L_count).2 95 = some (.getfield 27, 98, 8, 3, 0, 70, 0, []) := (congrFun pm_L_count 95).trans rfl
theorem rl_L_count_98 : (am_pg z_L_count).2 98 = some (.getfield 80, 101, 7, 1, 0, 41, 0, []) := (congrFun pm_L_count 98).trans rfl
theorem rl_L_count_101 : (am_pg z_L_count).2 101 = some (.ireturn, 102, 0, 0, 0, 0, 0, []) := (congrFun pm_L_count 101).trans rfl
theorem rl_L_count_102 : (am_pg z_L_count).2 102 = some (.aload_n 0, 103, 0, 0, 0, 0, 0, []) := (congrFun pm_L_count 102).trans rfl
theorem rl_L_count_103 : (am_pg z_L_count).2 103 = some (.getfield 20, 106, 8, 2, 0, 69, 0, []) := (congrFun pm_L_count 103).trans rfl
theorem rl_L_count_106 : (am_pg z_L_count).2 106 = some (.ireturn, 107, 0, 0, 0, 0, 0, []) := (congrFun pm_L_count 106).trans rfl
theorem rl_L_count_107 : (am_pg z_L_count).2 107 = some (.iconst (-1), 108, 0, 0, 0, 0, -1, []) := (congrFun pm_L_count 107).trans rfl
theorem rl_L_count_108 : (am_pg z_L_count).2 108 = some (.ireturn, 109, 0, 0, 0, 0, 0, []) := (congrFun pm_L_count 108).trans rfl
theorem rl_L_outcome_0 : (am_pg z_L_outcome).2 0 = some (.iload_n 1, 1, 1, 0, 0, 0, 0, []) := (congrFun pm_L_outcome 0).trans rfl
theorem rl_L_outcome_1 : (am_pg z_L_outcome).2 1 = some (.iconst (4), 2, 0, 0, 0, 0, 4, []) := (congrFun pm_L_outcome 1).trans rfl
theorem rl_L_outcome_2 : (am_pg z_L_outcome).2 2 = some (.if_icmp .ne (12), 5, 14, 0, 0, 0, 0, []) := (congrFun pm_L_outcome 2).trans rfl
theorem rl_L_outcome_5 : (am_pg z_L_outcome).2 5 = some (.aload_n 0, 6, 0, 0, 0, 0, 0, []) := (congrFun pm_L_outcome 5).trans rfl
theorem rl_L_outcome_6 : (am_pg z_L_outcome).2 6 = some (.aload_n 0, 7, 0, 0, 0, 0, 0, []) := (congrFun pm_L_outcome 6).trans rfl
theorem rl_L_outcome_7 : (am_pg z_L_outcome).2 7 = some (.getfield 76, 10, 8, 8, 0, 75, 0, []) := (congrFun pm_L_outcome 7).trans rfl
theorem rl_L_outcome_10 : (am_pg z_L_outcome).2 10 = some (.invokevirtual 362, 13, 62, 1, 8, 190, 0, []) := (congrFun pm_L_outcome 10).trans rfl
theorem rl_L_outcome_13 : (am_pg z_L_outcome).2 13 = some (.ireturn, 14, 0, 0, 0, 0, 0, []) := (congrFun pm_L_outcome 13).trans rfl
theorem rl_L_outcome_14 : (am_pg z_L_outcome).2 14 = some (.aload_n 0, 15, 0, 0, 0, 0, 0, []) := (congrFun pm_L_outcome 14).trans rfl
theorem rl_L_outcome_15 : (am_pg z_L_outcome).2 15 = some (.getfield 56, 18, 8, 6, 0, 73, 0, []) := (congrFun pm_L_outcome 15).trans rfl
theorem rl_L_outcome_18 : (am_pg z_L_outcome).2 18 = some (.aload_n 0, 19, 0, 0, 0, 0, 0, []) := (congrFun pm_L_outcome 18).trans rfl
theorem rl_L_outcome_19 : (am_pg z_L_outcome).2 19 = some (.getfield 76, 22, 8, 8, 0, 75, 0, []) := (congrFun pm_L_outcome 19).trans rfl
theorem rl_L_outcome_22 : (am_pg z_L_outcome).2 22 = some (.invokevirtual 245, 25, 210, 1, 0, 100, 0, []) := (congrFun pm_L_outcome 22).trans rfl
theorem rl_L_outcome_25 : (am_pg z_L_outcome).2 25 = some (.iload_n 1, 26, 1, 0, 0, 0, 0, []) := (congrFun pm_L_outcome 25).trans rfl
theorem rl_L_outcome_26 : (am_pg z_L_outcome).2 26 = some (.iconst (3), 27, 0, 0, 0, 0, 3, []) := (congrFun pm_L_outcome 26).trans rfl
theorem rl_L_outcome_27 : (am_pg z_L_outcome).2 27 = some (.if_icmp .ne (10), 30, 37, 0, 0, 0, 0, []) := (congrFun pm_L_outcome 27).trans rfl
theorem rl_L_outcome_30 : (am_pg z_L_outcome).2 30 = some (.aload_n 0, 31, 0, 0, 0, 0, 0, []) := (congrFun pm_L_outcome 30).trans rfl
theorem rl_L_outcome_31 : (am_pg z_L_outcome).2 31 = some (.invokevirtual 359, 34, 61, 0, 8, 193, 0, []) := (congrFun pm_L_outcome 31).trans rfl
theorem rl_L_outcome_34 : (am_pg z_L_outcome).2 34 = some (.goto (11), 37, 45, 0, 0, 0, 0, []) := (congrFun pm_L_outcome 34).trans rfl
theorem rl_L_outcome_37 : (am_pg z_L_outcome).2 37 = some (.aload_n 0, 38, 0, 0, 0, 0, 0, []) := (congrFun pm_L_outcome 37).trans rfl
theorem rl_L_outcome_38 : (am_pg z_L_outcome).2 38 = some (.getfield 56, 41, 8, 6, 0, 73, 0, []) := (congrFun pm_L_outcome 38).trans rfl
theorem rl_L_outcome_41 : (am_pg z_L_outcome).2 41 = some (.iload_n 1, 42, 1, 0, 0, 0, 0, []) := (congrFun pm_L_outcome 41).trans rfl
theorem rl_L_outcome_42 : (am_pg z_L_outcome).2 42 = some (.invokevirtual 311, 45, 224, 1, 0, 145, 0, []) := (congrFun pm_L_outcome 42).trans rfl
theorem rl_L_outcome_45 : (am_pg z_L_outcome).2 45 = some (.ireturn, 46, 0, 0, 0, 0, 0, []) := (congrFun pm_L_outcome 45).trans rfl
theorem rl_L_owedAsIf_0 : (am_pg z_L_owedAsIf).2 0 = some (.iconst (0), 1, 0, 0, 0, 0, 0, []) := (congrFun pm_L_owedAsIf 0).trans rfl
theorem rl_L_owedAsIf_1 : (am_pg z_L_owedAsIf).2 1 = some (.istore_n 1, 2, 1, 0, 0, 0, 0, []) := (congrFun pm_L_owedAsIf 1).trans rfl
theorem rl_L_owedAsIf_2 : (am_pg z_L_owedAsIf).2 2 = some (.iconst (0), 3, 0, 0, 0, 0, 0, []) := (congrFun pm_L_owedAsIf 2).trans rfl
theorem rl_L_owedAsIf_3 : (am_pg z_L_owedAsIf).2 3 = some (.istore_n 2, 4, 2, 0, 0, 0, 0, []) := (congrFun pm_L_owedAsIf 3).trans rfl
theorem rl_L_owedAsIf_4 : (am_pg z_L_owedAsIf).2 4 = some (.iload_n 2, 5, 2, 0, 0, 0, 0, []) := (congrFun pm_L_owedAsIf 4).trans rfl
theorem rl_L_owedAsIf_5 : (am_pg z_L_owedAsIf).2 5 = some (.iconst (3), 6, 0, 0, 0, 0, 3, []) := (congrFun pm_L_owedAsIf 5).trans rfl
theorem rl_L_owedAsIf_6 : (am_pg z_L_owedAsIf).2 6 = some (.if_icmp .ge (24), 9, 30, 0, 0, 0, 0, []) := (congrFun pm_L_owedAsIf 6).trans rfl
theorem rl_L_owedAsIf_9 : (am_pg z_L_owedAsIf).2 9 = some (.iload_n 1, 10, 1, 0, 0, 0, 0, []) := (congrFun pm_L_owedAsIf 9).trans rfl
theorem rl_L_owedAsIf_10 : (am_pg z_L_owedAsIf).2 10 = some (.aload_n 0, 11, 0, 0, 0, 0, 0, []) := (congrFun pm_L_owedAsIf 10).trans rfl
theorem rl_L_owedAsIf_11 : (am_pg z_L_owedAsIf).2 11 = some (.getfield 56, 14, 8, 6, 0, 73, 0, []) := (congrFun pm_L_owedAsIf 11).trans rfl
theorem rl_L_owedAsIf_14 : (am_pg z_L_owedAsIf).2 14 = some (.iload_n 2, 15, 2, 0, 0, 0, 0, []) := (congrFun pm_L_owedAsIf 14).trans rfl
theorem rl_L_owedAsIf_15 : (am_pg z_L_owedAsIf).2 15 = some (.aload_n 0, 16, 0, 0, 0, 0, 0, []) := (congrFun pm_L_owedAsIf 15).trans rfl
theorem rl_L_owedAsIf_16 : (am_pg z_L_owedAsIf).2 16 = some (.getfield 76, 19, 8, 8, 0, 75, 0, []) := (congrFun pm_L_owedAsIf 16).trans rfl
theorem rl_L_owedAsIf_19 : (am_pg z_L_owedAsIf).2 19 = some (.invokevirtual 325, 22, 232, 2, 0, 161, 0, []) := (congrFun pm_L_owedAsIf 19).trans rfl
theorem rl_L_owedAsIf_22 : (am_pg z_L_owedAsIf).2 22 = some (.iadd, 23, 0, 0, 0, 0, 0, []) := (congrFun pm_L_owedAsIf 22).trans rfl
theorem rl_L_owedAsIf_23 : (am_pg z_L_owedAsIf).2 23 = some (.istore_n 1, 24, 1, 0, 0, 0, 0, []) := (congrFun pm_L_owedAsIf 23).trans rfl
theorem rl_L_owedAsIf_24 : (am_pg z_L_owedAsIf).2 24 = some (.iinc 2 (1), 27, 2, 0, 0, 0, 1, []) := (congrFun pm_L_owedAsIf 24).trans rfl
theorem rl_L_owedAsIf_27 : (am_pg z_L_owedAsIf).2 27 = some (.goto (-23), 30, 4, 0, 0, 0, 0, []) := (congrFun pm_L_owedAsIf 27).trans rfl
theorem rl_L_owedAsIf_30 : (am_pg z_L_owedAsIf).2 30 = some (.iload_n 1, 31, 1, 0, 0, 0, 0, []) := (congrFun pm_L_owedAsIf 30).trans rfl
theorem rl_L_owedAsIf_31 : (am_pg z_L_owedAsIf).2 31 = some (.ireturn, 32, 0, 0, 0, 0, 0, []) := (congrFun pm_L_owedAsIf 31).trans rfl
theorem rl_L_overstaysInAll_0 : (am_pg z_L_overstaysInAll).2 0 = some (.iconst (0), 1, 0, 0, 0, 0, 0, []) := (congrFun pm_L_overstaysInAll 0).trans rfl
theorem rl_L_overstaysInAll_1 : (am_pg z_L_overstaysInAll).2 1 = some (.istore_n 2, 2, 2, 0, 0, 0, 0, []) := (congrFun pm_L_overstaysInAll 1).trans rfl
theorem rl_L_overstaysInAll_2 : (am_pg z_L_overstaysInAll).2 2 = some (.iconst (0), 3, 0, 0, 0, 0, 0, []) := (congrFun pm_L_overstaysInAll 2).trans rfl
theorem rl_L_overstaysInAll_3 : (am_pg z_L_overstaysInAll).2 3 = some (.istore_n 3, 4, 3, 0, 0, 0, 0, []) := (congrFun pm_L_overstaysInAll 3).trans rfl
theorem rl_L_overstaysInAll_4 : (am_pg z_L_overstaysInAll).2 4 = some (.iload_n 3, 5, 3, 0, 0, 0, 0, []) := (congrFun pm_L_overstaysInAll 4).trans rfl
theorem rl_L_overstaysInAll_5 : (am_pg z_L_overstaysInAll).2 5 = some (.bipush (6), 7, 0, 0, 0, 0, 6, []) := (congrFun pm_L_overstaysInAll 5).trans rfl
theorem rl_L_overstaysInAll_7 : (am_pg z_L_overstaysInAll).2 7 = some (.if_icmp .ge (28), 10, 35, 0, 0, 0, 0, []) := (congrFun pm_L_overstaysInAll 7).trans rfl
theorem rl_L_overstaysInAll_10 : (am_pg z_L_overstaysInAll).2 10 = some (.aload_n 0, 11, 0, 0, 0, 0, 0, []) := (congrFun pm_L_overstaysInAll 10).trans rfl
theorem rl_L_overstaysInAll_11 : (am_pg z_L_overstaysInAll).2 11 = some (.getfield 69, 14, 8, 7, 0, 74, 0, []) := (congrFun pm_L_overstaysInAll 11).trans rfl
theorem rl_L_overstaysInAll_14 : (am_pg z_L_overstaysInAll).2 14 = some (.aload_n 1, 15, 1, 0, 0, 0, 0, []) := (congrFun pm_L_overstaysInAll 14).trans rfl
theorem rl_L_overstaysInAll_15 : (am_pg z_L_overstaysInAll).2 15 = some (.iload_n 3, 16, 3, 0, 0, 0, 0, []) := (congrFun pm_L_overstaysInAll 15).trans rfl
theorem rl_L_overstaysInAll_16 : (am_pg z_L_overstaysInAll).2 16 = some (.invokevirtual 236, 19, 257, 2, 3, 91, 0, []) := (congrFun pm_L_overstaysInAll 16).trans rfl
theorem rl_L_overstaysInAll_19 : (am_pg z_L_overstaysInAll).2 19 = some (.iload_n 2, 20, 2, 0, 0, 0, 0, []) := (congrFun pm_L_overstaysInAll 19).trans rfl
theorem rl_L_overstaysInAll_20 : (am_pg z_L_overstaysInAll).2 20 = some (.aload_n 0, 21, 0, 0, 0, 0, 0, []) := (congrFun pm_L_overstaysInAll 20).trans rfl
theorem rl_L_overstaysInAll_21 : (am_pg z_L_overstaysInAll).2 21 = some (.getfield 69, 24, 8, 7, 0, 74, 0, []) := (congrFun pm_L_overstaysInAll 21).trans rfl
theorem rl_L_overstaysInAll_24 : (am_pg z_L_overstaysInAll).2 24 = some (.invokevirtual 367, 27, 261, 0, 3, 191, 0, []) := (congrFun pm_L_overstaysInAll 24).trans rfl
theorem rl_L_overstaysInAll_27 : (am_pg z_L_overstaysInAll).2 27 = some (.iadd, 28, 0, 0, 0, 0, 0, []) := (congrFun pm_L_overstaysInAll 27).trans rfl
theorem rl_L_overstaysInAll_28 : (am_pg z_L_overstaysInAll).2 28 = some (.istore_n 2, 29, 2, 0, 0, 0, 0, []) := (congrFun pm_L_overstaysInAll 28).trans rfl
theorem rl_L_overstaysInAll_29 : (am_pg z_L_overstaysInAll).2 29 = some (.iinc 3 (1), 32, 3, 0, 0, 0, 1, []) := (congrFun pm_L_overstaysInAll 29).trans rfl
theorem rl_L_overstaysInAll_32 : (am_pg z_L_overstaysInAll).2 32 = some (.goto (-28), 35, 4, 0, 0, 0, 0, []) := (congrFun pm_L_overstaysInAll 32).trans rfl
theorem rl_L_overstaysInAll_35 : (am_pg z_L_overstaysInAll).2 35 = some (.iload_n 2, 36, 2, 0, 0, 0, 0, []) := (congrFun pm_L_overstaysInAll 35).trans rfl
theorem rl_L_overstaysInAll_36 : (am_pg z_L_overstaysInAll).2 36 = some (.ireturn, 37, 0, 0, 0, 0, 0, []) := (congrFun pm_L_overstaysInAll 36).trans rfl
theorem rl_L_isText_0 : (am_pg z_L_isText).2 0 = some (.iload_n 1, 1, 1, 0, 0, 0, 0, []) := (congrFun pm_L_isText 0).trans rfl
theorem rl_L_isText_1 : (am_pg z_L_isText).2 1 = some (.iconst (1), 2, 0, 0, 0, 0, 1, []) := (congrFun pm_L_isText 1).trans rfl
theorem rl_L_isText_2 : (am_pg z_L_isText).2 2 = some (.sipush (160), 5, 0, 0, 0, 0, 160, []) := (congrFun pm_L_isText 2).trans rfl
theorem rl_L_isText_5 : (am_pg z_L_isText).2 5 = some (.invokestatic 133, 8, 65, 3, 0, 16, 0, []) := (congrFun pm_L_isText 5).trans rfl
theorem rl_L_isText_8 : (am_pg z_L_isText).2 8 = some (.ifCond .eq (18), 11, 26, 0, 0, 0, 0, []) := (congrFun pm_L_isText 8).trans rfl
theorem rl_L_isText_11 : (am_pg z_L_isText).2 11 = some (.iload_n 1, 12, 1, 0, 0, 0, 0, []) := (congrFun pm_L_isText 11).trans rfl
theorem rl_L_isText_12 : (am_pg z_L_isText).2 12 = some (.aload_n 0, 13, 0, 0, 0, 0, 0, []) := (congrFun pm_L_isText 12).trans rfl
theorem rl_L_isText_13 : (am_pg z_L_isText).2 13 = some (.getfield 27, 16, 8, 3, 0, 70, 0, []) := (congrFun pm_L_isText 13).trans rfl
theorem rl_L_isText_16 : (am_pg z_L_isText).2 16 = some (.getfield 80, 19, 7, 1, 0, 41, 0, []) := (congrFun pm_L_isText 16).trans rfl
theorem rl_L_isText_19 : (am_pg z_L_isText).2 19 = some (.if_icmp .gt (7), 22, 26, 0, 0, 0, 0, []) := (congrFun pm_L_isText 19).trans rfl
theorem rl_L_isText_22 : (am_pg z_L_isText).2 22 = some (.iconst (1), 23, 0, 0, 0, 0, 1, []) := (congrFun pm_L_isText 22).trans rfl
theorem rl_L_isText_23 : (am_pg z_L_isText).2 23 = some (.goto (4), 26, 27, 0, 0, 0, 0, []) := (congrFun pm_L_isText 23).trans rfl
theorem rl_L_isText_26 : (am_pg z_L_isText).2 26 = some (.iconst (0), 27, 0, 0, 0, 0, 0, []) := (congrFun pm_L_isText 26).trans rfl
theorem rl_L_isText_27 : (am_pg z_L_isText).2 27 = some (.ireturn, 28, 0, 0, 1, 0, 0, []) := (congrFun pm_L_isText 27).trans rfl
theorem rl_L_isRow_0 : (am_pg z_L_isRow).2 0 = some (.iload_n 1, 1, 1, 0, 0, 0, 0, []) := (congrFun pm_L_isRow 0).trans rfl
theorem rl_L_isRow_1 : (am_pg z_L_isRow).2 1 = some (.iconst (0), 2, 0, 0, 0, 0, 0, []) := (congrFun pm_L_isRow 1).trans rfl
theorem rl_L_isRow_2 : (am_pg z_L_isRow).2 2 = some (.iconst (4), 3, 0, 0, 0, 0, 4, []) := (congrFun pm_L_isRow 2).trans rfl
theorem rl_L_isRow_3 : (am_pg z_L_isRow).2 3 = some (.invokestatic 133, 6, 65, 3, 0, 16, 0, []) := (congrFun pm_L_isRow 3).trans rfl
theorem rl_L_isRow_6 : (am_pg z_L_isRow).2 6 = some (.ifCond .eq (18), 9, 24, 0, 0, 0, 0, []) := (congrFun pm_L_isRow 6).trans rfl
theorem rl_L_isRow_9 : (am_pg z_L_isRow).2 9 = some (.iload_n 1, 10, 1, 0, 0, 0, 0, []) := (congrFun pm_L_isRow 9).trans rfl
theorem rl_L_isRow_10 : (am_pg z_L_isRow).2 10 = some (.aload_n 0, 11, 0, 0, 0, 0, 0, []) := (congrFun pm_L_isRow 10).trans rfl
theorem rl_L_isRow_11 : (am_pg z_L_isRow).2 11 = some (.getfield 27, 14, 8, 3, 0, 70, 0, []) := (congrFun pm_L_isRow 11).trans rfl
theorem rl_L_isRow_14 : (am_pg z_L_isRow).2 14 = some (.getfield 80, 17, 7, 1, 0, 41, 0, []) := (congrFun pm_L_isRow 14).trans rfl
theorem rl_L_isRow_17 : (am_pg z_L_isRow).2 17 = some (.if_icmp .gt (7), 20, 24, 0, 0, 0, 0, []) := (congrFun pm_L_isRow 17).trans rfl
theorem rl_L_isRow_20 : (am_pg z_L_isRow).2 20 = some (.iconst (1), 21, 0, 0, 0, 0, 1, []) := (congrFun pm_L_isRow 20).trans rfl
theorem rl_L_isRow_21 : (am_pg z_L_isRow).2 21 = some (.goto (4), 24, 25, 0, 0, 0, 0, []) := (congrFun pm_L_isRow 21).trans rfl
theorem rl_L_isRow_24 : (am_pg z_L_isRow).2 24 = some (.iconst (0), 25, 0, 0, 0, 0, 0, []) := (congrFun pm_L_isRow 24).trans rfl
theorem rl_L_isRow_25 : (am_pg z_L_isRow).2 25 = some (.ireturn, 26, 0, 0, 1, 0, 0, []) := (congrFun pm_L_isRow 25).trans rfl
theorem rl_L_isAmong_0 : (am_pg z_L_isAmong).2 0 = some (.iload_n 0, 1, 0, 0, 0, 0, 0, []) := (congrFun pm_L_isAmong 0).trans rfl
theorem rl_L_isAmong_1 : (am_pg z_L_isAmong).2 1 = some (.iload_n 1, 2, 1, 0, 0, 0, 0, []) := (congrFun pm_L_isAmong 1).trans rfl
theorem rl_L_isAmong_2 : (am_pg z_L_isAmong).2 2 = some (.if_icmp .lt (12), 5, 14, 0, 0, 0, 0, []) := (congrFun pm_L_isAmong 2).trans rfl
theorem rl_L_isAmong_5 : (am_pg z_L_isAmong).2 5 = some (.iload_n 0, 6, 0, 0, 0, 0, 0, []) := (congrFun pm_L_isAmong 5).trans rfl
theorem rl_L_isAmong_6 : (am_pg z_L_isAmong).2 6 = some (.iload_n 2, 7, 2, 0, 0, 0, 0, []) := (congrFun pm_L_isAmong 6).trans rfl
theorem rl_L_isAmong_7 : (am_pg z_L_isAmong).2 7 = some (.if_icmp .gt (7), 10, 14, 0, 0, 0, 0, []) := (congrFun pm_L_isAmong 7).trans rfl
theorem rl_L_isAmong_10 : (am_pg z_L_isAmong).2 10 = some (.iconst (1), 11, 0, 0, 0, 0, 1, []) := (congrFun pm_L_isAmong 10).trans rfl
theorem rl_L_isAmong_11 : (am_pg z_L_isAmong).2 11 = some (.goto (4), 14, 15, 0, 0, 0, 0, []) := (congrFun pm_L_isAmong 11).trans rfl
theorem rl_L_isAmong_14 : (am_pg z_L_isAmong).2 14 = some (.iconst (0), 15, 0, 0, 0, 0, 0, []) := (congrFun pm_L_isAmong 14).trans rfl
theorem rl_L_isAmong_15 : (am_pg z_L_isAmong).2 15 = some (.ireturn, 16, 0, 0, 1, 0, 0, []) := (congrFun pm_L_isAmong 15).trans rfl
theorem rl_L_isDay_0 : (am_pg z_L_isDay).2 0 = some (.iload_n 0, 1, 0, 0, 0, 0, 0, []) := (congrFun pm_L_isDay 0).trans rfl
theorem rl_L_isDay_1 : (am_pg z_L_isDay).2 1 = some (.iconst (0), 2, 0, 0, 0, 0, 0, []) := (congrFun pm_L_isDay 1).trans rfl
theorem rl_L_isDay_2 : (am_pg z_L_isDay).2 2 = some (.sipush (1079), 5, 0, 0, 0, 0, 1079, []) := (congrFun pm_L_isDay 2).trans rfl
theorem rl_L_isDay_5 : (am_pg z_L_isDay).2 5 = some (.invokestatic 133, 8, 65, 3, 0, 16, 0, []) := (congrFun pm_L_isDay 5).trans rfl
theorem rl_L_isDay_8 : (am_pg z_L_isDay).2 8 = some (.ireturn, 9, 0, 0, 1, 0, 0, []) := (congrFun pm_L_isDay 8).trans rfl
theorem rl_L_isSpan_0 : (am_pg z_L_isSpan).2 0 = some (.iload_n 0, 1, 0, 0, 0, 0, 0, []) := (congrFun pm_L_isSpan 0).trans rfl
theorem rl_L_isSpan_1 : (am_pg z_L_isSpan).2 1 = some (.invokestatic 147, 4, 66, 1, 0, 34, 0, []) := (congrFun pm_L_isSpan 1).trans rfl
theorem rl_L_isSpan_4 : (am_pg z_L_isSpan).2 4 = some (.ifCond .eq (19), 7, 23, 0, 0, 0, 0, []) := (congrFun pm_L_isSpan 4).trans rfl
theorem rl_L_isSpan_7 : (am_pg z_L_isSpan).2 7 = some (.iload_n 1, 8, 1, 0, 0, 0, 0, []) := (congrFun pm_L_isSpan 7).trans rfl
theorem rl_L_isSpan_8 : (am_pg z_L_isSpan).2 8 = some (.invokestatic 147, 11, 66, 1, 0, 34, 0, []) := (congrFun pm_L_isSpan 8).trans rfl
theorem rl_L_isSpan_11 : (am_pg z_L_isSpan).2 11 = some (.ifCond .eq (12), 14, 23, 0, 0, 0, 0, []) := (congrFun pm_L_isSpan 11).trans rfl
theorem rl_L_isSpan_14 : (am_pg z_L_isSpan).2 14 = some (.iload_n 0, 15, 0, 0, 0, 0, 0, []) := (congrFun pm_L_isSpan 14).trans rfl
theorem rl_L_isSpan_15 : (am_pg z_L_isSpan).2 15 = some (.iload_n 1, 16, 1, 0, 0, 0, 0, []) := (congrFun pm_L_isSpan 15).trans rfl
theorem rl_L_isSpan_16 : (am_pg z_L_isSpan).2 16 = some (.if_icmp .gt (7), 19, 23, 0, 0, 0, 0, []) := (congrFun pm_L_isSpan 16).trans rfl
theorem rl_L_isSpan_19 : (am_pg z_L_isSpan).2 19 = some (.iconst (1), 20, 0, 0, 0, 0, 1, []) := (congrFun pm_L_isSpan 19).trans rfl
theorem rl_L_isSpan_20 : (am_pg z_L_isSpan).2 20 = some (.goto (4), 23, 24, 0, 0, 0, 0, []) := (congrFun pm_L_isSpan 20).trans rfl
theorem rl_L_isSpan_23 : (am_pg z_L_isSpan).2 23 = some (.iconst (0), 24, 0, 0, 0, 0, 0, []) := (congrFun pm_L_isSpan 23).trans rfl
theorem rl_L_isSpan_24 : (am_pg z_L_isSpan).2 24 = some (.ireturn, 25, 0, 0, 1, 0, 0, []) := (congrFun pm_L_isSpan 24).trans rfl
theorem rl_L_isYear_0 : (am_pg z_L_isYear).2 0 = some (.iload_n 0, 1, 0, 0, 0, 0, 0, []) := (congrFun pm_L_isYear 0).trans rfl
theorem rl_L_isYear_1 : (am_pg z_L_isYear).2 1 = some (.iconst (0), 2, 0, 0, 0, 0, 0, []) := (congrFun pm_L_isYear 1).trans rfl
theorem rl_L_isYear_2 : (am_pg z_L_isYear).2 2 = some (.iconst (2), 3, 0, 0, 0, 0, 2, []) := (congrFun pm_L_isYear 2).trans rfl
theorem rl_L_isYear_3 : (am_pg z_L_isYear).2 3 = some (.invokestatic 133, 6, 65, 3, 0, 16, 0, []) := (congrFun pm_L_isYear 3).trans rfl
theorem rl_L_isYear_6 : (am_pg z_L_isYear).2 6 = some (.ireturn, 7, 0, 0, 1, 0, 0, []) := (congrFun pm_L_isYear 6).trans rfl
theorem rl_L_isLand_0 : (am_pg z_L_isLand).2 0 = some (.iload_n 0, 1, 0, 0, 0, 0, 0, []) := (congrFun pm_L_isLand 0).trans rfl
theorem rl_L_isLand_1 : (am_pg z_L_isLand).2 1 = some (.iconst (0), 2, 0, 0, 0, 0, 0, []) := (congrFun pm_L_isLand 1).trans rfl
theorem rl_L_isLand_2 : (am_pg z_L_isLand).2 2 = some (.iconst (5), 3, 0, 0, 0, 0, 5, []) := (congrFun pm_L_isLand 2).trans rfl
theorem rl_L_isLand_3 : (am_pg z_L_isLand).2 3 = some (.invokestatic 133, 6, 65, 3, 0, 16, 0, []) := (congrFun pm_L_isLand 3).trans rfl
theorem rl_L_isLand_6 : (am_pg z_L_isLand).2 6 = some (.ireturn, 7, 0, 0, 1, 0, 0, []) := (congrFun pm_L_isLand 6).trans rfl
theorem rl_L_isPlace_0 : (am_pg z_L_isPlace).2 0 = some (.iload_n 0, 1, 0, 0, 0, 0, 0, []) := (congrFun pm_L_isPlace 0).trans rfl
theorem rl_L_isPlace_1 : (am_pg z_L_isPlace).2 1 = some (.iconst (-1), 2, 0, 0, 0, 0, -1, []) := (congrFun pm_L_isPlace 1).trans rfl
theorem rl_L_isPlace_2 : (am_pg z_L_isPlace).2 2 = some (.iconst (5), 3, 0, 0, 0, 0, 5, []) := (congrFun pm_L_isPlace 2).trans rfl
theorem rl_L_isPlace_3 : (am_pg z_L_isPlace).2 3 = some (.invokestatic 133, 6, 65, 3, 0, 16, 0, []) := (congrFun pm_L_isPlace 3).trans rfl
theorem rl_L_isPlace_6 : (am_pg z_L_isPlace).2 6 = some (.ireturn, 7, 0, 0, 1, 0, 0, []) := (congrFun pm_L_isPlace 6).trans rfl
theorem rl_L_isPair_0 : (am_pg z_L_isPair).2 0 = some (.iload_n 0, 1, 0, 0, 0, 0, 0, []) := (congrFun pm_L_isPair 0).trans rfl
theorem rl_L_isPair_1 : (am_pg z_L_isPair).2 1 = some (.invokestatic 113, 4, 69, 1, 0, 37, 0, []) := (congrFun pm_L_isPair 1).trans rfl
theorem rl_L_isPair_4 : (am_pg z_L_isPair).2 4 = some (.ifCond .eq (19), 7, 23, 0, 0, 0, 0, []) := (congrFun pm_L_isPair 4).trans rfl
theorem rl_L_isPair_7 : (am_pg z_L_isPair).2 7 = some (.iload_n 1, 8, 1, 0, 0, 0, 0, []) := (congrFun pm_L_isPair 7).trans rfl
theorem rl_L_isPair_8 : (am_pg z_L_isPair).2 8 = some (.invokestatic 113, 11, 69, 1, 0, 37, 0, []) := (congrFun pm_L_isPair 8).trans rfl
theorem rl_L_isPair_11 : (am_pg z_L_isPair).2 11 = some (.ifCond .eq (12), 14, 23, 0, 0, 0, 0, []) := (congrFun pm_L_isPair 11).trans rfl
theorem rl_L_isPair_14 : (am_pg z_L_isPair).2 14 = some (.iload_n 0, 15, 0, 0, 0, 0, 0, []) := (congrFun pm_L_isPair 14).trans rfl
theorem rl_L_isPair_15 : (am_pg z_L_isPair).2 15 = some (.iload_n 1, 16, 1, 0, 0, 0, 0, []) := (congrFun pm_L_isPair 15).trans rfl
theorem rl_L_isPair_16 : (am_pg z_L_isPair).2 16 = some (.if_icmp .eq (7), 19, 23, 0, 0, 0, 0, []) := (congrFun pm_L_isPair 16).trans rfl
theorem rl_L_isPair_19 : (am_pg z_L_isPair).2 19 = some (.iconst (1), 20, 0, 0, 0, 0, 1, []) := (congrFun pm_L_isPair 19).trans rfl
theorem rl_L_isPair_20 : (am_pg z_L_isPair).2 20 = some (.goto (4), 23, 24, 0, 0, 0, 0, []) := (congrFun pm_L_isPair 20).trans rfl
theorem rl_L_isPair_23 : (am_pg z_L_isPair).2 23 = some (.iconst (0), 24, 0, 0, 0, 0, 0, []) := (congrFun pm_L_isPair 23).trans rfl
theorem rl_L_isPair_24 : (am_pg z_L_isPair).2 24 = some (.ireturn, 25, 0, 0, 1, 0, 0, []) := (congrFun pm_L_isPair 24).trans rfl
theorem rl_L_isSort_0 : (am_pg z_L_isSort).2 0 = some (.iload_n 0, 1, 0, 0, 0, 0, 0, []) := (congrFun pm_L_isSort 0).trans rfl
theorem rl_L_isSort_1 : (am_pg z_L_isSort).2 1 = some (.iconst (0), 2, 0, 0, 0, 0, 0, []) := (congrFun pm_L_isSort 1).trans rfl
theorem rl_L_isSort_2 : (am_pg z_L_isSort).2 2 = some (.iconst (2), 3, 0, 0, 0, 0, 2, []) := (congrFun pm_L_isSort 2).trans rfl
theorem rl_L_isSort_3 : (am_pg z_L_isSort).2 3 = some (.invokestatic 133, 6, 65, 3, 0, 16, 0, []) := (congrFun pm_L_isSort 3).trans rfl
theorem rl_L_isSort_6 : (am_pg z_L_isSort).2 6 = some (.ireturn, 7, 0, 0, 1, 0, 0, []) := (congrFun pm_L_isSort 6).trans rfl
theorem rl_L_isOutcome_0 : (am_pg z_L_isOutcome).2 0 = some (.iload_n 0, 1, 0, 0, 0, 0, 0, []) := (congrFun pm_L_isOutcome 0).trans rfl
theorem rl_L_isOutcome_1 : (am_pg z_L_isOutcome).2 1 = some (.iconst (0), 2, 0, 0, 0, 0, 0, []) := (congrFun pm_L_isOutcome 1).trans rfl
theorem rl_L_isOutcome_2 : (am_pg z_L_isOutcome).2 2 = some (.iconst (4), 3, 0, 0, 0, 0, 4, []) := (congrFun pm_L_isOutcome 2).trans rfl
theorem rl_L_isOutcome_3 : (am_pg z_L_isOutcome).2 3 = some (.invokestatic 133, 6, 65, 3, 0, 16, 0, []) := (congrFun pm_L_isOutcome 3).trans rfl
theorem rl_L_isOutcome_6 : (am_pg z_L_isOutcome).2 6 = some (.ireturn, 7, 0, 0, 1, 0, 0, []) := (congrFun pm_L_isOutcome 6).trans rfl
theorem rl_L_hasBit_0 : (am_pg z_L_hasBit).2 0 = some (.iload_n 0, 1, 0, 0, 0, 0, 0, []) := (congrFun pm_L_hasBit 0).trans rfl
theorem rl_L_hasBit_1 : (am_pg z_L_hasBit).2 1 = some (.iload_n 1, 2, 1, 0, 0, 0, 0, []) := (congrFun pm_L_hasBit 1).trans rfl
theorem rl_L_hasBit_2 : (am_pg z_L_hasBit).2 2 = some (.ishr, 3, 0, 0, 0, 0, 0, []) := (congrFun pm_L_hasBit 2).trans rfl
theorem rl_L_hasBit_3 : (am_pg z_L_hasBit).2 3 = some (.iconst (1), 4, 0, 0, 0, 0, 1, []) := (congrFun pm_L_hasBit 3).trans rfl
theorem rl_L_hasBit_4 : (am_pg z_L_hasBit).2 4 = some (.iand, 5, 0, 0, 0, 0, 0, []) := (congrFun pm_L_hasBit 4).trans rfl
theorem rl_L_hasBit_5 : (am_pg z_L_hasBit).2 5 = some (.iconst (1), 6, 0, 0, 0, 0, 1, []) := (congrFun pm_L_hasBit 5).trans rfl
theorem rl_L_hasBit_6 : (am_pg z_L_hasBit).2 6 = some (.if_icmp .ne (7), 9, 13, 0, 0, 0, 0, []) := (congrFun pm_L_hasBit 6).trans rfl
theorem rl_L_hasBit_9 : (am_pg z_L_hasBit).2 9 = some (.iconst (1), 10, 0, 0, 0, 0, 1, []) := (congrFun pm_L_hasBit 9).trans rfl
theorem rl_L_hasBit_10 : (am_pg z_L_hasBit).2 10 = some (.goto (4), 13, 14, 0, 0, 0, 0, []) := (congrFun pm_L_hasBit 10).trans rfl
theorem rl_L_hasBit_13 : (am_pg z_L_hasBit).2 13 = some (.iconst (0), 14, 0, 0, 0, 0, 0, []) := (congrFun pm_L_hasBit 13).trans rfl
theorem rl_L_hasBit_14 : (am_pg z_L_hasBit).2 14 = some (.ireturn, 15, 0, 0, 1, 0, 0, []) := (congrFun pm_L_hasBit 14).trans rfl
theorem rl_L_firstOf_0 : (am_pg z_L_firstOf).2 0 = some (.iload_n 0, 1, 0, 0, 0, 0, 0, []) := (congrFun pm_L_firstOf 0).trans rfl
theorem rl_L_firstOf_1 : (am_pg z_L_firstOf).2 1 = some (.sipush (360), 4, 0, 0, 0, 0, 360, []) := (congrFun pm_L_firstOf 1).trans rfl
theorem rl_L_firstOf_4 : (am_pg z_L_firstOf).2 4 = some (.imul, 5, 0, 0, 0, 0, 0, []) := (congrFun pm_L_firstOf 4).trans rfl
theorem rl_L_firstOf_5 : (am_pg z_L_firstOf).2 5 = some (.ireturn, 6, 0, 0, 0, 0, 0, []) := (congrFun pm_L_firstOf 5).trans rfl
theorem rl_L_lastOf_0 : (am_pg z_L_lastOf).2 0 = some (.iload_n 0, 1, 0, 0, 0, 0, 0, []) := (congrFun pm_L_lastOf 0).trans rfl
theorem rl_L_lastOf_1 : (am_pg z_L_lastOf).2 1 = some (.sipush (360), 4, 0, 0, 0, 0, 360, []) := (congrFun pm_L_lastOf 1).trans rfl
theorem rl_L_lastOf_4 : (am_pg z_L_lastOf).2 4 = some (.imul, 5, 0, 0, 0, 0, 0, []) := (congrFun pm_L_lastOf 4).trans rfl
theorem rl_L_lastOf_5 : (am_pg z_L_lastOf).2 5 = some (.sipush (360), 8, 0, 0, 0, 0, 360, []) := (congrFun pm_L_lastOf 5).trans rfl
theorem rl_L_lastOf_8 : (am_pg z_L_lastOf).2 8 = some (.iadd, 9, 0, 0, 0, 0, 0, []) := (congrFun pm_L_lastOf 8).trans rfl
theorem rl_L_lastOf_9 : (am_pg z_L_lastOf).2 9 = some (.iconst (1), 10, 0, 0, 0, 0, 1, []) := (congrFun pm_L_lastOf 9).trans rfl
theorem rl_L_lastOf_10 : (am_pg z_L_lastOf).2 10 = some (.isub, 11, 0, 0, 0, 0, 0, []) := (congrFun pm_L_lastOf 10).trans rfl
theorem rl_L_lastOf_11 : (am_pg z_L_lastOf).2 11 = some (.ireturn, 12, 0, 0, 0, 0, 0, []) := (congrFun pm_L_lastOf 11).trans rfl
theorem rl_L_yearOf_0 : (am_pg z_L_yearOf).2 0 = some (.iload_n 0, 1, 0, 0, 0, 0, 0, []) := (congrFun pm_L_yearOf 0).trans rfl
theorem rl_L_yearOf_1 : (am_pg z_L_yearOf).2 1 = some (.sipush (360), 4, 0, 0, 0, 0, 360, []) := (congrFun pm_L_yearOf 1).trans rfl
theorem rl_L_yearOf_4 : (am_pg z_L_yearOf).2 4 = some (.idiv, 5, 0, 0, 0, 0, 0, []) := (congrFun pm_L_yearOf 4).trans rfl
theorem rl_L_yearOf_5 : (am_pg z_L_yearOf).2 5 = some (.ireturn, 6, 0, 0, 0, 0, 0, []) := (congrFun pm_L_yearOf 5).trans rfl
theorem rl_L_spot_0 : (am_pg z_L_spot).2 0 = some (.iload_n 0, 1, 0, 0, 0, 0, 0, []) := (congrFun pm_L_spot 0).trans rfl
theorem rl_L_spot_1 : (am_pg z_L_spot).2 1 = some (.iconst (3), 2, 0, 0, 0, 0, 3, []) := (congrFun pm_L_spot 1).trans rfl
theorem rl_L_spot_2 : (am_pg z_L_spot).2 2 = some (.imul, 3, 0, 0, 0, 0, 0, []) := (congrFun pm_L_spot 2).trans rfl
theorem rl_L_spot_3 : (am_pg z_L_spot).2 3 = some (.iload_n 1, 4, 1, 0, 0, 0, 0, []) := (congrFun pm_L_spot 3).trans rfl
theorem rl_L_spot_4 : (am_pg z_L_spot).2 4 = some (.iadd, 5, 0, 0, 0, 0, 0, []) := (congrFun pm_L_spot 4).trans rfl
