/-! the tables: classes, methods, links, by their places in lw_tbl; the code in blocks -/
def cNs : List String := [RX0, RX1, RX2, RX3, RX4, RX5, RX6, RX7, RX8, RX9, RX10, RX11, RJ6, RJ9, RJ0, RJ1, RJ2, RJ7, RJ3, "TongueCampLaw"]
def cN (o : Nat) : String := cNs.getD o ""
abbrev MT : Type := MethodName × ByteArray × Nat × Option FieldType × Nat × Bool
def mTab : List MT := [(yX0_init, cX0_init, 2, none, 0, false),
  (yX0_copyFrom, cX0_copyFrom, 3, none, 0, false),
  (yX0_hasChild, cX0_hasChild, 2, (some .boolean), 0, false),
  (yX0_hasCabin, cX0_hasCabin, 2, (some .boolean), 0, false),
  (yX0_hasHost, cX0_hasHost, 2, (some .boolean), 0, false),
  (yX0_bedCount, cX0_bedCount, 3, (some .int), 0, false),
  (yX0_lyingIn, cX0_lyingIn, 4, (some .int), 0, false),
  (yX0_tokenCount, cX0_tokenCount, 3, (some .int), 0, false),
  (yX0_markedCount, cX0_markedCount, 3, (some .int), 0, false),
  (yX0_addToTape, cX0_addToTape, 3, none, 0, false),
  (yX1_init, cX1_init, 1, none, 1, false),
  (yX1_begin, cX1_begin, 4, none, 1, false),
  (yX1_copyFrom, cX1_copyFrom, 2, none, 1, false),
  (yX1_isBarredFrom, cX1_isBarredFrom, 2, (some .boolean), 1, false),
  (yX1_tryTask, cX1_tryTask, 3, none, 1, false),
  (yX1_nextHardness, cX1_nextHardness, 1, (some .int), 1, false),
  (yX2_init, cX2_init, 1, none, 2, false),
  (yX2_copyFrom, cX2_copyFrom, 2, none, 2, false),
  (yX2_putTest, cX2_putTest, 8, none, 2, false),
  (yX2_putLine, cX2_putLine, 5, none, 2, false),
  (yX2_play, cX2_play, 5, (some .int), 2, false),
  (yX2_changed, cX2_changed, 3, (some .int), 2, false),
  (yX2_allHold, cX2_allHold, 7, (some .boolean), 2, false),
  (yX2_isTrue, cX2_isTrue, 5, (some .boolean), 2, false),
  (yX2_fits, cX2_fits, 3, (some .boolean), 2, false),
  (yX3_init, cX3_init, 2, none, 3, false),
  (yX3_giveAll, cX3_giveAll, 6, (some .int), 3, false),
  (yX3_bestFrom, cX3_bestFrom, 5, (some .int), 3, false),
  (yX3_worth, cX3_worth, 5, (some .int), 3, false),
  (yX3_firstBest, cX3_firstBest, 4, (some .int), 3, false),
  (yX4_init, cX4_init, 2, none, 4, false),
  (yX4_makeGroups, cX4_makeGroups, 6, (some .int), 4, false),
  (yX4_lineUp, cX4_lineUp, 3, none, 4, false),
  (yX4_middle, cX4_middle, 2, (some .int), 4, false),
  (yX4_cutRun, cX4_cutRun, 13, none, 4, false),
  (yX4_settle, cX4_settle, 6, none, 4, false),
  (yX5_init, cX5_init, 2, none, 5, false),
  (yX5_gather, cX5_gather, 3, none, 5, false),
  (yX5_countSets, cX5_countSets, 3, (some .int), 5, false),
  (yX5_countAsGood, cX5_countAsGood, 5, (some .int), 5, false),
  (yX5_sumHalf, cX5_sumHalf, 6, none, 5, false),
  (yX5_setAfter, cX5_setAfter, 3, (some .int), 5, true),
  (yX6_init, cX6_init, 2, none, 6, false),
  (yX6_costOfAll, cX6_costOfAll, 3, (some .int), 6, false),
  (yX6_costOf, cX6_costOf, 5, (some .int), 6, false),
  (yX6_costBehind, cX6_costBehind, 5, (some .int), 6, false),
  (yX6_between, cX6_between, 6, (some .int), 6, false),
  (yX6_shyness, cX6_shyness, 2, (some .int), 6, false),
  (yX6_lonely, cX6_lonely, 1, (some .int), 6, true),
  (yX6_houseAll, cX6_houseAll, 3, none, 6, false),
  (yX6_cheapestFor, cX6_cheapestFor, 5, (some .int), 6, false),
  (yX6_stepOnce, cX6_stepOnce, 1, (some .int), 6, false),
  (yX6_stepOften, cX6_stepOften, 2, (some .int), 6, false),
  (yX6_stepWeighed, cX6_stepWeighed, 2, (some .int), 6, false),
  (yX6_searchExchanges, cX6_searchExchanges, 5, none, 6, false),
  (yX6_searchMoves, cX6_searchMoves, 4, none, 6, false),
  (yX6_consider, cX6_consider, 5, none, 6, false),
  (yX6_changeByComing, cX6_changeByComing, 4, (some .int), 6, false),
  (yX6_changeByLeaving, cX6_changeByLeaving, 4, (some .int), 6, false),
  (yX6_changeByExchange, cX6_changeByExchange, 7, (some .int), 6, false),
  (yX6_weigh, cX6_weigh, 4, none, 6, false),
  (yX6_countLying, cX6_countLying, 3, none, 6, false),
  (yX6_measure, cX6_measure, 5, none, 6, false),
  (yX6_leastCost, cX6_leastCost, 3, (some .int), 6, false),
  (yX6_priceSets, cX6_priceSets, 7, none, 6, false),
  (yX6_openCabin, cX6_openCabin, 6, none, 6, false),
  (yX7_init, cX7_init, 1, none, 7, false),
  (yX7_beSaid, cX7_beSaid, 6, none, 7, false),
  (yX7_beSilent, cX7_beSilent, 3, none, 7, false),
  (yX8_init, cX8_init, 2, none, 8, false),
  (yX8_readTape, cX8_readTape, 2, (some .int), 8, false),
  (yX8_placeOfFault, cX8_placeOfFault, 1, (some .int), 8, false),
  (yX8_begin, cX8_begin, 1, none, 8, false),
  (yX8_takeToken, cX8_takeToken, 1, (some .boolean), 8, false),
  (yX8_takeLine, cX8_takeLine, 1, (some .boolean), 8, false),
  (yX8_takeTest, cX8_takeTest, 1, (some .boolean), 8, false),
  (yX8_takeAsked, cX8_takeAsked, 1, (some .boolean), 8, false),
  (yX8_takeSign, cX8_takeSign, 1, (some .boolean), 8, false),
  (yX8_takeBound, cX8_takeBound, 1, (some .boolean), 8, false),
  (yX8_endTest, cX8_endTest, 2, none, 8, false),
  (yX8_takeJoint, cX8_takeJoint, 1, (some .boolean), 8, false),
  (yX8_takeVerb, cX8_takeVerb, 1, (some .boolean), 8, false),
  (yX8_takeAmount, cX8_takeAmount, 1, (some .boolean), 8, false),
  (yX8_takeClose, cX8_takeClose, 1, (some .boolean), 8, false),
  (yX8_tooMany, cX8_tooMany, 1, none, 8, false),
  (yX8_advance, cX8_advance, 2, none, 8, false),
  (yX8_takeWord, cX8_takeWord, 2, (some .int), 8, false),
  (yX8_isSpelled, cX8_isSpelled, 5, (some .boolean), 8, false),
  (yX8_takeNumber, cX8_takeNumber, 1, (some .int), 8, false),
  (yX8_signOf, cX8_signOf, 1, (some .int), 8, true),
  (yX8_isBlank, cX8_isBlank, 1, (some .boolean), 8, true),
  (yX8_isLetter, cX8_isLetter, 1, (some .boolean), 8, true),
  (yX8_isDigit, cX8_isDigit, 1, (some .boolean), 8, true),
  (yX9_init, cX9_init, 2, none, 9, false),
  (yX9_planWatch, cX9_planWatch, 5, (some .int), 9, false),
  (yX9_awayOn, cX9_awayOn, 4, (some .int), 9, false),
  (yX9_fillFrom, cX9_fillFrom, 8, (some .boolean), 9, true),
  (yX9_restingSince, cX9_restingSince, 3, (some .int), 9, false),
  (yX10_init, cX10_init, 1, none, 10, false),
  (yX10_within, cX10_within, 3, (some .boolean), 10, true),
  (yX10_child, cX10_child, 5, (some .int), 10, false),
  (yX10_bar, cX10_bar, 5, (some .boolean), 10, false),
  (yX10_cabin, cX10_cabin, 3, (some .int), 10, false),
  (yX10_lie, cX10_lie, 4, (some .boolean), 10, false),
  (yX10_house, cX10_house, 1, (some .int), 10, false),
  (yX10_step, cX10_step, 1, (some .int), 10, false),
  (yX10_better, cX10_better, 1, (some .int), 10, false),
  (yX10_cost, cX10_cost, 2, (some .int), 10, false),
  (yX10_least, cX10_least, 1, (some .int), 10, false),
  (yX10_task, cX10_task, 5, (some .int), 10, false),
  (yX10_groups, cX10_groups, 4, (some .int), 10, false),
  (yX10_feed, cX10_feed, 6, (some .int), 10, false),
  (yX10_end, cX10_end, 2, (some .int), 10, false),
  (yX10_game, cX10_game, 1, (some .int), 10, false),
  (yX10_fault, cX10_fault, 2, (some .int), 10, false),
  (yX10_said, cX10_said, 7, (some .int), 10, false),
  (yX10_night, cX10_night, 4, (some .int), 10, false),
  (yX10_paysSilence, cX10_paysSilence, 3, (some .boolean), 10, false),
  (yX10_tell, cX10_tell, 4, (some .int), 10, false),
  (yX10_helper, cX10_helper, 3, (some .int), 10, false),
  (yX10_watch, cX10_watch, 4, (some .int), 10, false),
  (yX10_watcher, cX10_watcher, 2, (some .int), 10, false),
  (yX10_table, cX10_table, 5, (some .int), 10, false),
  (yX10_met, cX10_met, 9, (some .int), 10, false),
  (yX10_areTables, cX10_areTables, 3, (some .boolean), 10, false),
  (yX10_countMeetings, cX10_countMeetings, 7, (some .int), 10, false),
  (yX10_doMeet, cX10_doMeet, 8, (some .boolean), 10, true),
  (yX10_host, cX10_host, 2, (some .int), 10, false),
  (yX10_like, cX10_like, 4, (some .boolean), 10, false),
  (yX10_give, cX10_give, 1, (some .int), 10, false),
  (yX10_mark, cX10_mark, 6, (some .boolean), 10, false),
  (yX10_held, cX10_held, 2, (some .int), 10, false),
  (yX10_count, cX10_count, 2, (some .int), 10, false),
  (yX10_image, cX10_image, 3, (some .boolean), 10, false),
  (yX10_again, cX10_again, 3, (some .boolean), 10, false),
  (yX11_init, cX11_init, 1, none, 11, false),
  (yX11_in, cX11_in, 3, (some .boolean), 11, true),
  (yX11_move, cX11_move, 5, none, 11, true),
  (yX11_moveBits, cX11_moveBits, 5, none, 11, true),
  (yX11_copy, cX11_copy, 4, none, 11, false),
  (yX11_isChild, cX11_isChild, 2, (some .boolean), 11, false),
  (yX11_isCabin, cX11_isCabin, 2, (some .boolean), 11, false),
  (yX11_child, cX11_child, 6, (some .int), 11, false),
  (yX11_areBarred, cX11_areBarred, 3, (some .boolean), 11, false),
  (yX11_bar, cX11_bar, 3, (some .boolean), 11, false),
  (yX11_cabin, cX11_cabin, 2, (some .int), 11, false),
  (yX11_lying, cX11_lying, 4, (some .int), 11, false),
  (yX11_lie, cX11_lie, 3, (some .boolean), 11, false),
  (yX11_pairCost, cX11_pairCost, 4, (some .int), 11, false),
  (yX11_costOf, cX11_costOf, 6, (some .int), 11, false),
  (yX11_allCost, cX11_allCost, 3, (some .int), 11, false),
  (yX11_allBeds, cX11_allBeds, 3, (some .int), 11, false),
  (yX11_house, cX11_house, 6, (some .int), 11, false),
  (yX11_oneStep, cX11_oneStep, 12, (some .int), 11, false),
  (yX11_step, cX11_step, 1, (some .int), 11, false),
  (yX11_better, cX11_better, 2, (some .int), 11, false),
  (yX11_cost, cX11_cost, 2, (some .int), 11, false),
  (yX11_least, cX11_least, 8, (some .int), 11, false),
  (yX11_task, cX11_task, 4, (some .int), 11, false),
  (yX11_sortRow, cX11_sortRow, 3, none, 11, false),
  (yX11_runCost, cX11_runCost, 9, (some .int), 11, false),
  (yX11_groups, cX11_groups, 10, (some .int), 11, false),
  (yX11_feed, cX11_feed, 6, (some .int), 11, false),
  (yX11_four, cX11_four, 3, none, 11, false),
  (yX11_end, cX11_end, 2, (some .int), 11, false),
  (yX11_see, cX11_see, 1, (some .int), 11, false),
  (yX11_next, cX11_next, 3, none, 11, false),
  (yX11_isWord, cX11_isWord, 3, (some .boolean), 11, false),
  (yX11_isSign, cX11_isSign, 2, (some .boolean), 11, false),
  (yX11_wrong, cX11_wrong, 1, (some .boolean), 11, false),
  (yX11_tooMany, cX11_tooMany, 1, none, 11, false),
  (yX11_need, cX11_need, 2, (some .boolean), 11, false),
  (yX11_oneLine, cX11_oneLine, 4, (some .boolean), 11, false),
  (yX11_test, cX11_test, 8, (some .boolean), 11, false),
  (yX11_game, cX11_game, 4, (some .int), 11, false),
  (yX11_fault, cX11_fault, 2, (some .int), 11, false),
  (yX11_holds, cX11_holds, 6, (some .boolean), 11, false),
  (yX11_played, cX11_played, 9, (some .int), 11, false),
  (yX11_said, cX11_said, 6, (some .int), 11, false),
  (yX11_night, cX11_night, 3, (some .int), 11, false),
  (yX11_paysSilence, cX11_paysSilence, 2, (some .boolean), 11, false),
  (yX11_tell, cX11_tell, 3, (some .int), 11, false),
  (yX11_helper, cX11_helper, 2, (some .int), 11, false),
  (yX11_ones, cX11_ones, 3, (some .int), 11, true),
  (yX11_may, cX11_may, 5, (some .boolean), 11, false),
  (yX11_rests, cX11_rests, 4, (some .boolean), 11, true),
  (yX11_nextSet, cX11_nextSet, 8, (some .int), 11, false),
  (yX11_watch, cX11_watch, 9, (some .int), 11, false),
  (yX11_watcher, cX11_watcher, 2, (some .int), 11, false),
  (yX11_tableOf, cX11_tableOf, 4, (some .int), 11, true),
  (yX11_areTables, cX11_areTables, 3, (some .boolean), 11, false),
  (yX11_table, cX11_table, 5, (some .int), 11, false),
  (yX11_met, cX11_met, 13, (some .int), 11, false),
  (yX11_host, cX11_host, 3, (some .int), 11, false),
  (yX11_like, cX11_like, 4, (some .boolean), 11, false),
  (yX11_brings, cX11_brings, 4, (some .int), 11, false),
  (yX11_give, cX11_give, 8, (some .int), 11, false),
  (yX11_marks, cX11_marks, 3, (some .int), 11, false),
  (yX11_mark, cX11_mark, 5, (some .boolean), 11, false),
  (yX11_held, cX11_held, 11, (some .int), 11, false),
  (yX11_count, cX11_count, 4, (some .int), 11, false),
  (yX11_image, cX11_image, 2, (some .boolean), 11, false),
  (yX11_again, cX11_again, 2, (some .boolean), 11, false),
  (yJ6_bitCount_0f7a4, cJ6_bitCount_0f7a4, 1, (some .int), 12, true),
  (yJ9_abs_0f7a4, cJ9_abs_0f7a4, 1, (some .int), 13, true),
  (yJ9_max_7cf53, cJ9_max_7cf53, 2, (some .int), 13, true),
  (yJ9_min_7cf53, cJ9_min_7cf53, 2, (some .int), 13, true),
  (yJ7_fill_d0a16, cJ7_fill_d0a16, 5, none, 17, true),
  (yJ7_fill_53178, cJ7_fill_53178, 4, none, 17, true),
  (⟨"TongueCampLaw", "law", "([I)Z"⟩, code, 4, (some .boolean), 19, true)]
def mE (y : Nat) : MT := mTab.getD y (⟨"", "", ""⟩, ⟨#[]⟩, 0, none, 0, false)
def mY (y : Nat) : MethodName := (mE y).1
def mB (y : Nat) : ByteArray := (mE y).2.1
def mL (y : Nat) : Nat := (mE y).2.2.1
def mR (y : Nat) : Option FieldType := (mE y).2.2.2.1
def mO (y : Nat) : Nat := (mE y).2.2.2.2.1
def mS (y : Nat) : Bool := (mE y).2.2.2.2.2
def mA (y : Nat) : Nat := ((parseMethodDescriptor (mY y).desc).map (fun d => d.parameters.length)).getD 99
def lwG : List Cond := lw_tbl.filter goodWord
def mW (y : Nat) : List Cond := Cond.code (mY y) (mB y) (mL y) (mR y) :: lwG
def inG (h : Nat) (w : Cond) : Bool := decide (lw_tbl[h]? = some w) && goodWord w
theorem inG_mem {h : Nat} {w : Cond} (q : inG h w = true) : w ∈ lwG := by
  simp only [inG, Bool.and_eq_true, decide_eq_true_eq] at q
  exact List.mem_filter.mpr ⟨List.mem_of_getElem? q.1, q.2⟩
def clE (ci : Nat) : vw_C := vwCl.getD ci ("", fun _ => ("", "", "", false), 0)
def fT (c : Nat) : String × String × String × Bool := (clE (c / 100)).2.1 (c % 100)
/-- fields: 0 an int, 1 a boolean, 2 a reference -/
def fkT : List (List Nat) := [[2, 0, 0, 2, 0, 2, 0, 2, 0, 0, 0, 2, 2, 0, 0, 0, 2, 0], [0, 0, 1, 0, 0, 0, 0, 0, 0, 0, 0, 0, 1, 0, 1, 0, 0], [0, 2, 2, 2, 2, 2, 2, 2], [2, 2], [2, 2, 2, 2], [0, 0, 2, 2, 2, 2, 0, 0], [2, 2, 2, 2, 2, 2, 2, 0, 0, 0, 0], [0, 0, 0, 1, 1, 1], [2, 2, 0, 0, 0, 0, 0, 0, 0, 1, 0, 0, 0, 0, 0, 0], [2, 2, 2, 2, 0, 0, 0], [2, 2, 2, 2, 2, 2, 2, 2, 2, 2], [0, 2, 2, 2, 2, 2, 2, 2, 2, 2, 2, 2, 2, 2, 2, 2, 2, 2, 2, 2, 2, 2, 2, 2, 2, 2, 2, 2, 2, 2, 2, 2, 2, 2, 2, 2, 2, 2, 2, 2, 2, 2, 2, 2, 2, 2, 2, 0, 0, 0, 0, 0, 3, 0, 0, 0, 2, 2, 2, 2, 2, 2, 2, 2, 2, 2, 2]]
def fkd (c : Nat) : Nat := (fkT.getD (c / 100) []).getD (c % 100) 9
theorem zipG {ws : List Cond} {hs : List Nat} (hl : ws.length ≤ hs.length) (h : (ws.zip hs).all (fun q => inG q.2 q.1) = true) : ∀ w ∈ ws, w ∈ lwG := by
  intro w hw
  obtain ⟨i, hi, rfl⟩ := List.mem_iff_getElem.mp hw
  have h2 : (ws[i], hs[i]'(Nat.lt_of_lt_of_le hi hl)) ∈ ws.zip hs := by
    rw [List.mem_iff_getElem]
    exact ⟨i, by rw [List.length_zip]; omega, by rw [List.getElem_zip]⟩
  exact inG_mem (List.all_eq_true.mp h _ h2)
/-- own class, entry, field, place -/
def lkF : List (Nat × Nat × Nat × Nat) := [(0, 13, 0, 243), (0, 17, 3, 257), (0, 21, 5, 263), (0, 24, 7, 269), (0, 30, 11, 279), (0, 34, 12, 281), (0, 38, 15, 288), (0, 42, 16, 290), (0, 50, 1, 250), (0, 53, 2, 255), (0, 62, 4, 261), (0, 65, 6, 266), (0, 68, 8, 273), (0, 71, 9, 275), (0, 74, 10, 277), (0, 80, 13, 283), (0, 83, 14, 286), (0, 86, 17, 294), (0, 89, 104, 170), (0, 92, 109, 185), (0, 95, 114, 199), (1, 9, 100, 154), (1, 15, 101, 157), (1, 18, 102, 161), (1, 22, 103, 165), (1, 25, 104, 167), (1, 28, 105, 171), (1, 31, 106, 175), (1, 34, 107, 178), (1, 37, 108, 180), (1, 40, 109, 183), (1, 43, 110, 187), (1, 46, 111, 190), (1, 49, 112, 192), (1, 52, 113, 194), (1, 55, 114, 198), (1, 58, 115, 202), (1, 61, 116, 204), (2, 9, 201, 124), (2, 13, 202, 125), (2, 16, 203, 126), (2, 19, 204, 127), (2, 22, 205, 128), (2, 25, 206, 129), (2, 28, 207, 130), (2, 31, 200, 121), (2, 41, 109, 184), (2, 67, 703, 464), (2, 73, 704, 466), (2, 76, 102, 163), (2, 79, 705, 468), (2, 82, 702, 462), (2, 89, 701, 460), (2, 92, 700, 458), (2, 95, 105, 173), (2, 98, 101, 159), (2, 101, 110, 188), (3, 13, 301, 518), (3, 17, 300, 517), (3, 21, 8, 272), (3, 25, 1, 249), (3, 35, 0, 245), (3, 39, 113, 195), (3, 53, 7, 270), (4, 11, 401, 381), (4, 17, 402, 382), (4, 20, 403, 383), (4, 23, 400, 380), (4, 37, 1, 251), (4, 53, 0, 248), (4, 57, 105, 172), (4, 62, 106, 176), (4, 74, 108, 181), (5, 9, 503, 535), (5, 13, 504, 536), (5, 16, 505, 537), (5, 19, 502, 534), (5, 23, 500, 530), (5, 27, 501, 532), (5, 30, 506, 538), (5, 33, 507, 539), (5, 42, 1, 252), (5, 47, 0, 244), (5, 51, 114, 197), (5, 56, 115, 201), (5, 58, 116, 205), (6, 11, 601, 341), (6, 17, 602, 342), (6, 20, 603, 343), (6, 23, 604, 344), (6, 26, 605, 345), (6, 29, 606, 346), (6, 32, 600, 340), (6, 36, 4, 260), (6, 44, 1, 254), (6, 47, 0, 246), (6, 51, 104, 168), (6, 69, 100, 155), (6, 76, 101, 158), (6, 87, 102, 162), (6, 105, 3, 259), (6, 115, 607, 347), (6, 124, 608, 348), (6, 127, 609, 349), (6, 130, 610, 350), (7, 7, 700, 457), (7, 13, 701, 459), (7, 16, 702, 461), (7, 19, 703, 463), (7, 23, 704, 465), (7, 26, 705, 467), (8, 12, 800, 401), (8, 18, 801, 403), (8, 27, 803, 405), (8, 31, 814, 416), (8, 41, 804, 406), (8, 44, 815, 417), (8, 47, 200, 122), (8, 50, 802, 404), (8, 53, 806, 408), (8, 56, 807, 409), (8, 89, 808, 410), (8, 92, 813, 415), (8, 95, 809, 411), (8, 99, 810, 412), (8, 102, 811, 413), (8, 109, 805, 407), (8, 116, 812, 414), (8, 123, 13, 285), (8, 126, 12, 282), (9, 11, 901, 489), (9, 17, 902, 490), (9, 20, 903, 491), (9, 24, 900, 488), (9, 28, 904, 492), (9, 32, 905, 493), (9, 35, 906, 494), (9, 52, 16, 291), (9, 61, 17, 293), (9, 64, 6, 267), (9, 67, 5, 264), (10, 10, 1000, 557), (10, 16, 1001, 558), (10, 25, 1002, 559), (10, 32, 1003, 560), (10, 39, 1004, 561), (10, 46, 1005, 562), (10, 53, 1006, 563), (10, 60, 1007, 564), (10, 67, 1008, 565), (10, 71, 1009, 566), (10, 75, 1, 253), (10, 83, 0, 247), (10, 100, 2, 256), (10, 103, 103, 166), (10, 106, 4, 262), (10, 109, 3, 258), (10, 115, 104, 169), (10, 148, 106, 177), (10, 151, 105, 174), (10, 158, 13, 284), (10, 168, 14, 287), (10, 174, 15, 289), (10, 177, 11, 280), (10, 181, 800, 402), (10, 190, 200, 123), (10, 193, 10, 278), (10, 196, 112, 193), (10, 200, 111, 191), (10, 203, 9, 276), (10, 206, 110, 189), (10, 217, 109, 186), (10, 224, 100, 156), (10, 227, 101, 160), (10, 230, 102, 164), (10, 233, 107, 179), (10, 239, 108, 182), (10, 242, 113, 196), (10, 245, 6, 268), (10, 248, 5, 265), (10, 254, 17, 295), (10, 257, 16, 292), (10, 286, 8, 274), (10, 292, 7, 271), (10, 298, 114, 200), (10, 304, 115, 203), (10, 307, 116, 206), (10, 320, 500, 531), (10, 323, 501, 533), (11, 7, 1101, 1171), (11, 13, 1102, 1172), (11, 17, 1103, 1173), (11, 20, 1104, 1174), (11, 23, 1105, 1175), (11, 26, 1106, 1176), (11, 29, 1107, 1177), (11, 32, 1108, 1178), (11, 36, 1109, 1179), (11, 39, 1110, 1180), (11, 42, 1111, 1181), (11, 45, 1112, 1182), (11, 48, 1113, 1183), (11, 51, 1114, 1184), (11, 54, 1115, 1185), (11, 57, 1116, 1186), (11, 60, 1117, 1187), (11, 63, 1118, 1188), (11, 66, 1119, 1189), (11, 69, 1120, 1190), (11, 72, 1121, 1191), (11, 75, 1122, 1192), (11, 78, 1123, 1193), (11, 81, 1124, 1194), (11, 84, 1125, 1195), (11, 87, 1126, 1196), (11, 90, 1127, 1197), (11, 93, 1128, 1198), (11, 96, 1129, 1199), (11, 99, 1130, 1200), (11, 102, 1131, 1201), (11, 105, 1132, 1202), (11, 108, 1133, 1203), (11, 111, 1134, 1204), (11, 114, 1135, 1205), (11, 117, 1136, 1206), (11, 120, 1137, 1207), (11, 123, 1138, 1208), (11, 126, 1139, 1209), (11, 129, 1140, 1210), (11, 132, 1141, 1211), (11, 135, 1142, 1212), (11, 138, 1143, 1213), (11, 141, 1144, 1214), (11, 144, 1145, 1215), (11, 147, 1146, 1216), (11, 150, 1156, 1226), (11, 153, 1157, 1227), (11, 156, 1158, 1228), (11, 159, 1159, 1229), (11, 162, 1160, 1230), (11, 165, 1161, 1231), (11, 168, 1162, 1232), (11, 172, 1163, 1233), (11, 175, 1164, 1234), (11, 178, 1165, 1235), (11, 181, 1166, 1236), (11, 184, 1100, 1170), (11, 244, 1147, 1217), (11, 247, 1148, 1218), (11, 253, 1149, 1219), (11, 256, 1151, 1221), (11, 259, 1152, 1222), (11, 263, 1150, 1220), (11, 266, 1153, 1223), (11, 269, 1154, 1224), (11, 282, 1155, 1225)]
def lkF_c (q : Nat × Nat × Nat × Nat) : Cond := .fieldLink (cN q.1) q.2.1 (fT q.2.2.1).1 (fT q.2.2.1).2.1 (fT q.2.2.1).2.2.1
theorem lkF_r : lkF.all (fun q => decide (q.2.2.1 / 100 < 12) && decide (q.2.2.1 % 100 < (clE (q.2.2.1 / 100)).2.2)) = true := by decide +kernel
theorem lkF_b : lkF.all (fun q => inG q.2.2.2 (lkF_c q)) = true := by decide +kernel
/-- own class, entry, method, how (0 virtual, 1 static, 2 a constructor, 3 a nest mate's), place -/
def lkM : List (Nat × Nat × Nat × Nat × Nat) := [(0, 46, 12, 0, 1153), (0, 77, 17, 0, 1158), (2, 46, 22, 0, 977), (2, 52, 21, 0, 989), (2, 64, 23, 0, 981), (2, 85, 24, 0, 985), (3, 28, 27, 0, 1090), (3, 32, 29, 0, 1099), (3, 44, 28, 0, 1094), (4, 27, 32, 0, 781), (4, 31, 208, 1, 790), (4, 41, 34, 0, 791), (4, 45, 35, 0, 797), (4, 49, 33, 0, 785), (5, 36, 208, 1, 1120), (5, 61, 40, 0, 1125), (5, 64, 38, 0, 1129), (5, 68, 41, 1, 1133), (6, 40, 44, 0, 685), (6, 56, 47, 0, 661), (6, 59, 45, 0, 689), (6, 63, 48, 1, 678), (6, 66, 46, 0, 643), (6, 72, 13, 0, 647), (6, 91, 60, 0, 639), (6, 94, 61, 0, 654), (6, 97, 62, 0, 665), (6, 101, 50, 0, 669), (6, 108, 57, 0, 674), (6, 111, 53, 0, 701), (6, 118, 54, 0, 705), (6, 121, 55, 0, 717), (6, 133, 59, 0, 709), (6, 136, 56, 0, 713), (6, 140, 58, 0, 721), (6, 143, 208, 1, 658), (6, 149, 64, 0, 746), (6, 152, 65, 0, 750), (6, 156, 203, 1, 754), (7, 29, 67, 0, 1003), (8, 22, 72, 0, 821), (8, 34, 85, 0, 825), (8, 37, 73, 0, 894), (8, 59, 74, 0, 898), (8, 62, 75, 0, 910), (8, 65, 76, 0, 914), (8, 68, 77, 0, 926), (8, 71, 78, 0, 930), (8, 74, 80, 0, 934), (8, 77, 81, 0, 906), (8, 80, 82, 0, 938), (8, 83, 83, 0, 942), (8, 86, 84, 0, 902), (8, 105, 79, 0, 918), (8, 112, 18, 0, 922), (8, 119, 19, 0, 946), (8, 130, 90, 1, 829), (8, 134, 91, 1, 832), (8, 137, 86, 0, 835), (8, 141, 92, 1, 884), (8, 144, 88, 0, 887), (8, 147, 89, 1, 891), (8, 151, 87, 0, 839), (9, 38, 207, 1, 1028), (9, 44, 95, 0, 1031), (9, 48, 96, 1, 1035), (9, 70, 97, 0, 1038), (9, 74, 203, 1, 1042), (10, 9, 0, 2, 109), (10, 22, 42, 2, 336), (10, 31, 30, 2, 376), (10, 38, 69, 2, 395), (10, 52, 93, 2, 484), (10, 59, 25, 2, 513), (10, 66, 36, 2, 526), (10, 79, 99, 1, 592), (10, 87, 11, 0, 595), (10, 93, 2, 0, 603), (10, 97, 13, 0, 607), (10, 112, 3, 0, 619), (10, 118, 6, 0, 623), (10, 122, 5, 0, 631), (10, 126, 49, 0, 635), (10, 129, 43, 0, 681), (10, 132, 51, 0, 697), (10, 135, 52, 0, 729), (10, 138, 44, 0, 737), (10, 141, 63, 0, 742), (10, 144, 14, 0, 767), (10, 154, 31, 0, 777), (10, 161, 9, 0, 805), (10, 165, 70, 0, 817), (10, 171, 71, 0, 950), (10, 184, 17, 0, 954), (10, 209, 67, 0, 969), (10, 213, 20, 0, 973), (10, 220, 68, 0, 999), (10, 236, 15, 0, 1012), (10, 251, 94, 0, 1024), (10, 260, 124, 0, 1052), (10, 264, 125, 0, 1060), (10, 276, 208, 1, 1064), (10, 282, 126, 1, 1065), (10, 289, 4, 0, 1078), (10, 295, 26, 0, 1086), (10, 301, 8, 0, 1107), (10, 311, 37, 0, 1116), (10, 314, 39, 0, 1121), (10, 317, 38, 0, 1136), (10, 326, 7, 0, 1141), (10, 329, 1, 0, 1149), (11, 188, 137, 1, 1645), (11, 192, 138, 1, 1648), (11, 196, 136, 1, 1377), (11, 200, 140, 0, 1384), (11, 204, 143, 0, 1388), (11, 208, 141, 0, 1400), (11, 211, 146, 0, 1404), (11, 215, 148, 0, 1424), (11, 219, 149, 0, 1420), (11, 222, 151, 0, 1412), (11, 226, 150, 0, 1416), (11, 229, 153, 0, 1432), (11, 233, 159, 0, 1457), (11, 236, 160, 0, 1461), (11, 240, 163, 0, 1469), (11, 250, 165, 0, 1485), (11, 272, 168, 0, 1527), (11, 275, 169, 0, 1518), (11, 279, 166, 0, 1481), (11, 285, 170, 0, 1493), (11, 290, 167, 0, 1498), (11, 294, 173, 0, 1502), (11, 299, 171, 0, 1523), (11, 334, 172, 0, 1489), (11, 337, 176, 0, 1547), (11, 340, 177, 0, 1543), (11, 344, 183, 1, 1571), (11, 347, 184, 0, 1578), (11, 350, 185, 1, 1582), (11, 354, 186, 0, 1574), (11, 358, 190, 0, 1593), (11, 361, 189, 1, 1597), (11, 365, 195, 0, 1616), (11, 368, 197, 0, 1624), (11, 372, 139, 0, 1641), (19, 9, 98, 2, 101), (19, 12, 135, 2, 1165), (19, 13, 100, 0, 588), (19, 17, 142, 0, 1373), (19, 18, 101, 0, 599), (19, 22, 144, 0, 1380), (19, 23, 102, 0, 611), (19, 27, 145, 0, 1392), (19, 28, 103, 0, 615), (19, 31, 147, 0, 1396), (19, 32, 104, 0, 627), (19, 36, 152, 0, 1408), (19, 37, 105, 0, 693), (19, 40, 154, 0, 1428), (19, 41, 106, 0, 725), (19, 44, 155, 0, 1436), (19, 45, 107, 0, 733), (19, 48, 156, 0, 1440), (19, 49, 108, 0, 738), (19, 52, 157, 0, 1444), (19, 53, 109, 0, 763), (19, 56, 158, 0, 1449), (19, 57, 110, 0, 773), (19, 61, 161, 0, 1453), (19, 62, 111, 0, 801), (19, 66, 162, 0, 1465), (19, 67, 112, 0, 809), (19, 70, 164, 0, 1473), (19, 71, 113, 0, 813), (19, 74, 174, 0, 1477), (19, 75, 114, 0, 961), (19, 78, 175, 0, 1535), (19, 79, 115, 0, 965), (19, 83, 178, 0, 1539), (19, 84, 116, 0, 995), (19, 87, 179, 0, 1551), (19, 88, 117, 0, 1004), (19, 92, 180, 0, 1555), (19, 93, 118, 0, 1008), (19, 97, 181, 0, 1559), (19, 98, 119, 0, 1016), (19, 101, 182, 0, 1563), (19, 102, 120, 0, 1020), (19, 105, 187, 0, 1567), (19, 106, 121, 0, 1044), (19, 109, 188, 0, 1585), (19, 110, 122, 0, 1048), (19, 114, 191, 0, 1589), (19, 115, 123, 0, 1056), (19, 118, 192, 0, 1600), (19, 119, 127, 0, 1070), (19, 122, 193, 0, 1604), (19, 123, 128, 0, 1074), (19, 127, 194, 0, 1608), (19, 128, 129, 0, 1082), (19, 131, 196, 0, 1612), (19, 132, 130, 0, 1103), (19, 136, 198, 0, 1620), (19, 137, 131, 0, 1111), (19, 140, 199, 0, 1628), (19, 141, 132, 0, 1137), (19, 144, 200, 0, 1633), (19, 145, 133, 0, 1145), (19, 148, 201, 0, 1637), (19, 149, 134, 0, 1159), (19, 152, 202, 0, 1651)]
def lkM_c (q : Nat × Nat × Nat × Nat × Nat) : Cond := .methodLink (cN q.1) q.2.1 (mY q.2.2.1)
def lkN : List (Nat × Nat × Nat × Nat) := [(0, 29, 16, 117), (0, 45, 10, 150), (8, 11, 16, 400), (10, 45, 66, 453)]
def lkN_c (q : Nat × Nat × Nat × Nat) : Cond := .methodLinkNest (cN q.1) q.2.1 (mY q.2.2.1) "TongueCamp"
theorem lkN_b : lkN.all (fun q => decide (lw_tbl[q.2.2.2]? = some (lkN_c q))) = true := by decide +kernel
theorem lkM_k : lkM.all (fun q => decide (q.2.2.1 < 209) && decide (q.2.2.2.1 < 3) && (if q.2.2.2.1 = 1 then mS q.2.2.1 else !mS q.2.2.1) && decide (q.2.2.2.1 = 2 ↔ (mY q.2.2.1).name = "<init>")) = true := by decide +kernel
theorem lkN_k : lkN.all (fun q => decide (q.2.2.1 < 209) && !mS q.2.2.1 && decide ((mY q.2.2.1).name = "<init>")) = true := by decide +kernel
theorem lkM_b : lkM.all (fun q => inG q.2.2.2.2 (lkM_c q)) = true := by decide +kernel
def lkO : List (Nat × Nat × Nat) := [(0, 3, 112), (1, 3, 153), (2, 1, 120), (3, 5, 516), (4, 5, 379), (5, 1, 529), (6, 3, 339), (7, 1, 456), (8, 3, 398), (9, 5, 487), (10, 1, 104), (11, 1, 1168)]
theorem lkO_b : lkO.all (fun q => inG q.2.2 (.methodLink (cN q.1) q.2.1 objectInit)) = true := by decide +kernel
def lkA : List (Nat × Nat × Nat) := [(0, 56, 1157), (2, 35, 958), (9, 55, 1043)]
theorem lkA_b : lkA.all (fun q => inG q.2.2 (.methodLink (cN q.1) q.2.1 arraycopyName)) = true := by decide +kernel
/-- links of Math: max, min, abs -/
def lkX : List (Nat × Nat × Nat × Nat) := [(1, 64, 0, 771), (1, 70, 1, 772), (2, 56, 1, 993), (2, 61, 0, 994), (3, 48, 0, 1098), (4, 65, 1, 795), (4, 71, 0, 796), (6, 79, 2, 648), (6, 84, 0, 651), (6, 161, 1, 760), (10, 267, 1, 1068), (10, 273, 0, 1069)]
def mMt (k : Nat) : MethodName := if k = 0 then Lib.Math.max.name else if k = 1 then Lib.Math.min.name else Lib.Math.abs.name
theorem lkX_b : lkX.all (fun q => inG q.2.2.2 (.methodLink (cN q.1) q.2.1 (mMt q.2.2.1))) = true := by decide +kernel
theorem mtS : [(0, 652), (1, 761), (2, 649)].all (fun q => inG q.2 (.static (mMt q.1))) = true := by decide +kernel
theorem mtI : inG 91 (.initialized "java/lang/Math") = true := by decide +kernel
set_option maxRecDepth 100000 in
theorem mtC : [653, 762, 650].map (fun h => lw_tbl[h]?) = [some (Cond.code Lib.Math.max.name Lib.Math.max.code 2 (some .int)), some (Cond.code Lib.Math.min.name Lib.Math.min.code 2 (some .int)), some (Cond.code Lib.Math.abs.name Lib.Math.abs.code 1 (some .int))] := rfl
theorem syI : inG 98 (.initialized "java/lang/System") = true := by decide +kernel
theorem syS : inG 959 (.static arraycopyName) = true := by decide +kernel
theorem syN : inG 960 (.native arraycopyName) = true := by decide +kernel
theorem obI : inG 105 (.instanceMethod objectInit) = true := by decide +kernel
set_option maxRecDepth 100000 in
theorem obC : lw_tbl[106]? = some (Cond.code objectInit ⟨#[0xb1]⟩ 1 none) := rfl
theorem clI : [(0, 108, 80, 18), (1, 149, 82, 17), (2, 116, 81, 8), (3, 512, 88, 2), (4, 375, 84, 4), (5, 525, 89, 8), (6, 335, 83, 11), (7, 452, 86, 6), (8, 394, 85, 16), (9, 483, 87, 7), (10, 100, 79, 10), (11, 1164, 90, 67)].all (fun q => inG q.2.1 (.instantiable (cN q.1) q.2.2.2) && inG q.2.2.1 (.initialized (cN q.1)) && decide ((clE q.1).2.2 = q.2.2.2)) = true := by decide +kernel
def lkC : List (Nat × Nat × Nat × Nat) := [(0, 11, 1, 113), (0, 27, 2, 115), (8, 9, 2, 399), (10, 7, 0, 107), (10, 20, 6, 334), (10, 29, 4, 374), (10, 36, 8, 393), (10, 43, 7, 451), (10, 50, 9, 482), (10, 57, 3, 511), (10, 64, 5, 524), (19, 7, 10, 99), (19, 10, 11, 1163)]
theorem lkC_r : lkC.all (fun q => decide (q.2.2.1 < 12)) = true := by decide +kernel
theorem lkC_b : lkC.all (fun q => inG q.2.2.2 (.classLink (cN q.1) q.2.1 (cN q.2.2.1))) = true := by decide +kernel
def lkK : List (Nat × Nat × Int × Nat) := [(4, 30, 1000000, 789), (6, 104, 1000000, 673), (10, 310, -100000, 1115), (11, 171, 61440, 1169), (11, 232, 1000000, 1448), (11, 371, -100000, 1632), (12, 265, 1431655765, 757), (12, 266, 858993459, 758), (12, 267, 252645135, 759)]
theorem lkK_r : lkK.all (fun q => decide (-2147483648 ≤ q.2.2.1) && decide (q.2.2.1 < 2147483648)) = true := by decide +kernel
theorem lkK_b : lkK.all (fun q => inG q.2.2.2 (.constant (cN q.1) q.2.1 (Int32.ofInt q.2.2.1))) = true := by decide +kernel
def lkL : List (Nat × Nat × Nat × Nat) := [(11, 288, 26982, 1497), (11, 297, 6385252, 1522), (11, 302, 1734437230, 1531), (11, 304, 1819243365, 1532), (11, 306, 7562612, 1533), (11, 308, 1937010544, 1534), (11, 310, 7237492, 1506), (11, 312, 7305070, 1507), (11, 314, 114784820290930, 1508), (11, 316, 7563385, 1509), (11, 318, 126896627347060, 1510), (11, 320, 512970876019, 1511), (11, 322, 1752135026, 1512), (11, 324, 6578553, 1513), (11, 326, 7106423, 1514), (11, 328, 6383461, 1515), (11, 330, 6840691, 1516), (11, 332, 7501166, 1517)]
theorem lkL_r : lkL.all (fun q => decide (q.2.2.1 < 9223372036854775808)) = true := by decide +kernel
theorem lkL_b : lkL.all (fun q => inG q.2.2.2 (.constantLong (cN q.1) q.2.1 (Int64.ofInt (q.2.2.1 : Int)))) = true := by decide +kernel
/-- a method's own rows: its code, its class made ready, static or not, chosen by itself -/
def mPl : List (Nat × Nat × Nat × Nat × Nat) := [(111, 80, 110, 0, 0), (1152, 80, 1150, 1151, 1), (606, 80, 604, 605, 1), (622, 80, 620, 621, 1), (1081, 80, 1079, 1080, 1), (634, 80, 632, 633, 0), (626, 80, 624, 625, 1), (1144, 80, 1142, 1143, 0), (1110, 80, 1108, 1109, 0), (808, 80, 806, 807, 1), (152, 82, 151, 0, 0), (598, 82, 596, 597, 3), (1156, 82, 1154, 1155, 1), (610, 82, 608, 609, 1), (770, 82, 768, 769, 2), (1015, 82, 1013, 1014, 0), (119, 81, 118, 0, 0), (957, 81, 955, 956, 1), (925, 81, 923, 924, 6), (949, 81, 947, 948, 4), (976, 81, 974, 975, 2), (992, 81, 991, 40, 2), (980, 81, 979, 37, 4), (984, 81, 983, 38, 4), (988, 81, 987, 39, 2), (515, 88, 514, 0, 1), (1089, 88, 1087, 1088, 0), (1093, 88, 1092, 45, 2), (1097, 88, 1096, 46, 3), (1102, 88, 1101, 47, 2), (378, 84, 377, 0, 1), (780, 84, 778, 779, 3), (784, 84, 783, 16, 0), (788, 84, 787, 17, 1), (794, 84, 793, 18, 4), (800, 84, 799, 19, 1), (528, 89, 527, 0, 1), (1119, 89, 1117, 1118, 0), (1132, 89, 1130, 1131, 0), (1124, 89, 1122, 1123, 0), (1128, 89, 1127, 48, 2), (1135, 89, 1134, 0, 1), (338, 83, 337, 0, 1), (684, 83, 682, 683, 0), (688, 83, 686, 687, 1), (692, 83, 691, 7, 2), (646, 83, 645, 1, 2), (664, 83, 663, 3, 1), (680, 83, 679, 0, 1), (638, 83, 636, 637, 0), (672, 83, 671, 5, 1), (700, 83, 698, 699, 0), (732, 83, 730, 731, 0), (704, 83, 703, 8, 0), (708, 83, 707, 9, 0), (720, 83, 719, 12, 0), (716, 83, 715, 11, 4), (677, 83, 676, 6, 2), (724, 83, 723, 13, 2), (712, 83, 711, 10, 2), (642, 83, 641, 0, 0), (657, 83, 656, 2, 0), (668, 83, 667, 4, 1), (745, 83, 743, 744, 0), (749, 83, 748, 14, 1), (753, 83, 752, 15, 2), (455, 86, 454, 0, 0), (972, 86, 970, 971, 5), (1002, 86, 1000, 1001, 2), (397, 85, 396, 0, 1), (820, 85, 818, 819, 0), (953, 85, 951, 952, 0), (824, 85, 823, 20, 0), (897, 85, 896, 25, 0), (901, 85, 900, 26, 0), (913, 85, 912, 29, 0), (917, 85, 916, 30, 0), (929, 85, 928, 32, 0), (933, 85, 932, 33, 0), (921, 85, 920, 31, 1), (937, 85, 936, 34, 0), (909, 85, 908, 28, 0), (941, 85, 940, 35, 0), (945, 85, 944, 36, 0), (905, 85, 904, 27, 0), (828, 85, 827, 21, 0), (838, 85, 837, 22, 0), (842, 85, 841, 23, 2), (890, 85, 889, 24, 0), (893, 85, 892, 0, 1), (831, 85, 830, 0, 1), (834, 85, 833, 0, 1), (886, 85, 885, 0, 1), (486, 87, 485, 0, 1), (1027, 87, 1025, 1026, 3), (1034, 87, 1033, 41, 1), (1037, 87, 1036, 0, 2), (1041, 87, 1040, 42, 2), (103, 79, 102, 0, 0), (594, 79, 593, 0, 3), (591, 79, 589, 590, 3), (602, 79, 600, 601, 2), (614, 79, 612, 613, 1), (618, 79, 616, 617, 2), (630, 79, 628, 629, 0), (696, 79, 694, 695, 0), (728, 79, 726, 727, 0), (736, 79, 734, 735, 1), (741, 79, 739, 740, 0), (766, 79, 764, 765, 3), (776, 79, 774, 775, 3), (804, 79, 802, 803, 5), (812, 79, 810, 811, 1), (816, 79, 814, 815, 0), (964, 79, 962, 963, 1), (968, 79, 966, 967, 5), (998, 79, 996, 997, 0), (1007, 79, 1005, 1006, 1), (1011, 79, 1009, 1010, 2), (1019, 79, 1017, 1018, 1), (1023, 79, 1021, 1022, 3), (1047, 79, 1045, 1046, 1), (1051, 79, 1049, 1050, 4), (1059, 79, 1057, 1058, 4), (1055, 79, 1054, 43, 2), (1063, 79, 1062, 44, 3), (1067, 79, 1066, 0, 5), (1073, 79, 1071, 1072, 0), (1077, 79, 1075, 1076, 3), (1085, 79, 1083, 1084, 0), (1106, 79, 1104, 1105, 4), (1114, 79, 1112, 1113, 1), (1140, 79, 1138, 1139, 1), (1148, 79, 1146, 1147, 1), (1162, 79, 1160, 1161, 1), (1167, 90, 1166, 0, 0), (1379, 90, 1378, 0, 3), (1647, 90, 1646, 0, 4), (1650, 90, 1649, 0, 4), (1644, 90, 1643, 77, 2), (1387, 90, 1386, 49, 1), (1403, 90, 1402, 51, 1), (1376, 90, 1374, 1375, 3), (1391, 90, 1390, 50, 2), (1383, 90, 1381, 1382, 2), (1395, 90, 1393, 1394, 1), (1407, 90, 1406, 52, 1), (1399, 90, 1397, 1398, 2), (1427, 90, 1426, 56, 2), (1423, 90, 1422, 55, 1), (1419, 90, 1418, 54, 0), (1415, 90, 1414, 53, 0), (1411, 90, 1409, 1410, 0), (1435, 90, 1434, 57, 0), (1431, 90, 1429, 1430, 0), (1439, 90, 1437, 1438, 0), (1443, 90, 1441, 1442, 1), (1447, 90, 1445, 1446, 0), (1452, 90, 1450, 1451, 3), (1460, 90, 1459, 58, 0), (1464, 90, 1463, 59, 3), (1456, 90, 1454, 1455, 3), (1468, 90, 1466, 1467, 5), (1472, 90, 1471, 60, 1), (1476, 90, 1474, 1475, 1), (1488, 90, 1487, 62, 0), (1484, 90, 1483, 61, 0), (1501, 90, 1500, 65, 1), (1530, 90, 1529, 69, 1), (1521, 90, 1520, 67, 0), (1496, 90, 1495, 64, 0), (1526, 90, 1525, 68, 1), (1492, 90, 1491, 63, 0), (1505, 90, 1504, 66, 2), (1480, 90, 1478, 1479, 0), (1538, 90, 1536, 1537, 1), (1550, 90, 1549, 71, 1), (1546, 90, 1545, 70, 6), (1542, 90, 1540, 1541, 5), (1554, 90, 1552, 1553, 0), (1558, 90, 1556, 1557, 1), (1562, 90, 1560, 1561, 2), (1566, 90, 1564, 1565, 1), (1573, 90, 1572, 0, 1), (1581, 90, 1580, 73, 3), (1584, 90, 1583, 0, 4), (1577, 90, 1576, 72, 6), (1570, 90, 1568, 1569, 3), (1588, 90, 1586, 1587, 1), (1599, 90, 1598, 0, 4), (1596, 90, 1595, 74, 2), (1592, 90, 1590, 1591, 4), (1603, 90, 1601, 1602, 4), (1607, 90, 1605, 1606, 0), (1611, 90, 1609, 1610, 3), (1619, 90, 1618, 75, 3), (1615, 90, 1613, 1614, 0), (1627, 90, 1626, 76, 0), (1623, 90, 1621, 1622, 4), (1631, 90, 1629, 1630, 1), (1636, 90, 1634, 1635, 1), (1640, 90, 1638, 1639, 1), (1654, 90, 1652, 1653, 1), (756, 93, 755, 0, 1), (650, 91, 649, 0, 1), (653, 91, 652, 0, 2), (762, 91, 761, 0, 2), (1030, 92, 1029, 0, 2), (660, 92, 659, 0, 2)]
def mOk (y : Nat) : Bool := match mPl[y]? with
  | none => false
  | some q => inG q.2.1 (.initialized (mY y).cls) && (if mS y then inG q.2.2.1 (.static (mY y)) else inG q.2.2.1 (.instanceMethod (mY y)) && ((mY y).name == "<init>" || inG q.2.2.2.1 (.selects (mY y).cls (mY y) (mY y)))) && decide (mL y ≤ 30)
def mDs (y : Nat) : Bool := decide ((parseMethodDescriptor (mY y).desc).map (fun d => d.parameters.length) = some ((mPl.getD y (0, 0, 0, 0, 99)).2.2.2.2))
def clsOk (c : String) : Bool := decide (c ≠ "java/lang/invoke/MethodHandle" ∧ c ≠ "java/lang/invoke/VarHandle")
theorem clsOk_b : cNs.all clsOk = true := by decide +kernel
theorem mO_b : (List.range 209).all (fun y => decide (mO y < cNs.length) && decide (cN (mO y) = (mY y).cls)) = true := by decide +kernel
set_option maxRecDepth 100000 in
theorem mCd_0 : [111, 1152, 606, 622, 1081, 634, 626, 1144, 1110, 808, 152, 598, 1156, 610, 770, 1015, 119, 957, 925, 949].map (fun h => lw_tbl[h]?) = [some (Cond.code yX0_init cX0_init 2 none), some (Cond.code yX0_copyFrom cX0_copyFrom 3 none), some (Cond.code yX0_hasChild cX0_hasChild 2 (some .boolean)), some (Cond.code yX0_hasCabin cX0_hasCabin 2 (some .boolean)), some (Cond.code yX0_hasHost cX0_hasHost 2 (some .boolean)), some (Cond.code yX0_bedCount cX0_bedCount 3 (some .int)), some (Cond.code yX0_lyingIn cX0_lyingIn 4 (some .int)), some (Cond.code yX0_tokenCount cX0_tokenCount 3 (some .int)), some (Cond.code yX0_markedCount cX0_markedCount 3 (some .int)), some (Cond.code yX0_addToTape cX0_addToTape 3 none), some (Cond.code yX1_init cX1_init 1 none), some (Cond.code yX1_begin cX1_begin 4 none), some (Cond.code yX1_copyFrom cX1_copyFrom 2 none), some (Cond.code yX1_isBarredFrom cX1_isBarredFrom 2 (some .boolean)), some (Cond.code yX1_tryTask cX1_tryTask 3 none), some (Cond.code yX1_nextHardness cX1_nextHardness 1 (some .int)), some (Cond.code yX2_init cX2_init 1 none), some (Cond.code yX2_copyFrom cX2_copyFrom 2 none), some (Cond.code yX2_putTest cX2_putTest 8 none), some (Cond.code yX2_putLine cX2_putLine 5 none)] := rfl
theorem mOk_0 : (List.range 20).all (fun i => mOk (0 + i)) = true := by decide +kernel
theorem mDs_0 : (List.range 20).all (fun i => mDs (0 + i)) = true := by decide +kernel
set_option maxRecDepth 100000 in
theorem mCd_20 : [976, 992, 980, 984, 988, 515, 1089, 1093, 1097, 1102, 378, 780, 784, 788, 794, 800, 528, 1119, 1132, 1124].map (fun h => lw_tbl[h]?) = [some (Cond.code yX2_play cX2_play 5 (some .int)), some (Cond.code yX2_changed cX2_changed 3 (some .int)), some (Cond.code yX2_allHold cX2_allHold 7 (some .boolean)), some (Cond.code yX2_isTrue cX2_isTrue 5 (some .boolean)), some (Cond.code yX2_fits cX2_fits 3 (some .boolean)), some (Cond.code yX3_init cX3_init 2 none), some (Cond.code yX3_giveAll cX3_giveAll 6 (some .int)), some (Cond.code yX3_bestFrom cX3_bestFrom 5 (some .int)), some (Cond.code yX3_worth cX3_worth 5 (some .int)), some (Cond.code yX3_firstBest cX3_firstBest 4 (some .int)), some (Cond.code yX4_init cX4_init 2 none), some (Cond.code yX4_makeGroups cX4_makeGroups 6 (some .int)), some (Cond.code yX4_lineUp cX4_lineUp 3 none), some (Cond.code yX4_middle cX4_middle 2 (some .int)), some (Cond.code yX4_cutRun cX4_cutRun 13 none), some (Cond.code yX4_settle cX4_settle 6 none), some (Cond.code yX5_init cX5_init 2 none), some (Cond.code yX5_gather cX5_gather 3 none), some (Cond.code yX5_countSets cX5_countSets 3 (some .int)), some (Cond.code yX5_countAsGood cX5_countAsGood 5 (some .int))] := rfl
theorem mOk_20 : (List.range 20).all (fun i => mOk (20 + i)) = true := by decide +kernel
theorem mDs_20 : (List.range 20).all (fun i => mDs (20 + i)) = true := by decide +kernel
set_option maxRecDepth 100000 in
theorem mCd_40 : [1128, 1135, 338, 684, 688, 692, 646, 664, 680, 638, 672, 700, 732, 704, 708, 720, 716, 677, 724, 712].map (fun h => lw_tbl[h]?) = [some (Cond.code yX5_sumHalf cX5_sumHalf 6 none), some (Cond.code yX5_setAfter cX5_setAfter 3 (some .int)), some (Cond.code yX6_init cX6_init 2 none), some (Cond.code yX6_costOfAll cX6_costOfAll 3 (some .int)), some (Cond.code yX6_costOf cX6_costOf 5 (some .int)), some (Cond.code yX6_costBehind cX6_costBehind 5 (some .int)), some (Cond.code yX6_between cX6_between 6 (some .int)), some (Cond.code yX6_shyness cX6_shyness 2 (some .int)), some (Cond.code yX6_lonely cX6_lonely 1 (some .int)), some (Cond.code yX6_houseAll cX6_houseAll 3 none), some (Cond.code yX6_cheapestFor cX6_cheapestFor 5 (some .int)), some (Cond.code yX6_stepOnce cX6_stepOnce 1 (some .int)), some (Cond.code yX6_stepOften cX6_stepOften 2 (some .int)), some (Cond.code yX6_stepWeighed cX6_stepWeighed 2 (some .int)), some (Cond.code yX6_searchExchanges cX6_searchExchanges 5 none), some (Cond.code yX6_searchMoves cX6_searchMoves 4 none), some (Cond.code yX6_consider cX6_consider 5 none), some (Cond.code yX6_changeByComing cX6_changeByComing 4 (some .int)), some (Cond.code yX6_changeByLeaving cX6_changeByLeaving 4 (some .int)), some (Cond.code yX6_changeByExchange cX6_changeByExchange 7 (some .int))] := rfl
theorem mOk_40 : (List.range 20).all (fun i => mOk (40 + i)) = true := by decide +kernel
theorem mDs_40 : (List.range 20).all (fun i => mDs (40 + i)) = true := by decide +kernel
set_option maxRecDepth 100000 in
theorem mCd_60 : [642, 657, 668, 745, 749, 753, 455, 972, 1002, 397, 820, 953, 824, 897, 901, 913, 917, 929, 933, 921].map (fun h => lw_tbl[h]?) = [some (Cond.code yX6_weigh cX6_weigh 4 none), some (Cond.code yX6_countLying cX6_countLying 3 none), some (Cond.code yX6_measure cX6_measure 5 none), some (Cond.code yX6_leastCost cX6_leastCost 3 (some .int)), some (Cond.code yX6_priceSets cX6_priceSets 7 none), some (Cond.code yX6_openCabin cX6_openCabin 6 none), some (Cond.code yX7_init cX7_init 1 none), some (Cond.code yX7_beSaid cX7_beSaid 6 none), some (Cond.code yX7_beSilent cX7_beSilent 3 none), some (Cond.code yX8_init cX8_init 2 none), some (Cond.code yX8_readTape cX8_readTape 2 (some .int)), some (Cond.code yX8_placeOfFault cX8_placeOfFault 1 (some .int)), some (Cond.code yX8_begin cX8_begin 1 none), some (Cond.code yX8_takeToken cX8_takeToken 1 (some .boolean)), some (Cond.code yX8_takeLine cX8_takeLine 1 (some .boolean)), some (Cond.code yX8_takeTest cX8_takeTest 1 (some .boolean)), some (Cond.code yX8_takeAsked cX8_takeAsked 1 (some .boolean)), some (Cond.code yX8_takeSign cX8_takeSign 1 (some .boolean)), some (Cond.code yX8_takeBound cX8_takeBound 1 (some .boolean)), some (Cond.code yX8_endTest cX8_endTest 2 none)] := rfl
theorem mOk_60 : (List.range 20).all (fun i => mOk (60 + i)) = true := by decide +kernel
theorem mDs_60 : (List.range 20).all (fun i => mDs (60 + i)) = true := by decide +kernel
set_option maxRecDepth 100000 in
theorem mCd_80 : [937, 909, 941, 945, 905, 828, 838, 842, 890, 893, 831, 834, 886, 486, 1027, 1034, 1037, 1041, 103, 594].map (fun h => lw_tbl[h]?) = [some (Cond.code yX8_takeJoint cX8_takeJoint 1 (some .boolean)), some (Cond.code yX8_takeVerb cX8_takeVerb 1 (some .boolean)), some (Cond.code yX8_takeAmount cX8_takeAmount 1 (some .boolean)), some (Cond.code yX8_takeClose cX8_takeClose 1 (some .boolean)), some (Cond.code yX8_tooMany cX8_tooMany 1 none), some (Cond.code yX8_advance cX8_advance 2 none), some (Cond.code yX8_takeWord cX8_takeWord 2 (some .int)), some (Cond.code yX8_isSpelled cX8_isSpelled 5 (some .boolean)), some (Cond.code yX8_takeNumber cX8_takeNumber 1 (some .int)), some (Cond.code yX8_signOf cX8_signOf 1 (some .int)), some (Cond.code yX8_isBlank cX8_isBlank 1 (some .boolean)), some (Cond.code yX8_isLetter cX8_isLetter 1 (some .boolean)), some (Cond.code yX8_isDigit cX8_isDigit 1 (some .boolean)), some (Cond.code yX9_init cX9_init 2 none), some (Cond.code yX9_planWatch cX9_planWatch 5 (some .int)), some (Cond.code yX9_awayOn cX9_awayOn 4 (some .int)), some (Cond.code yX9_fillFrom cX9_fillFrom 8 (some .boolean)), some (Cond.code yX9_restingSince cX9_restingSince 3 (some .int)), some (Cond.code yX10_init cX10_init 1 none), some (Cond.code yX10_within cX10_within 3 (some .boolean))] := rfl
theorem mOk_80 : (List.range 20).all (fun i => mOk (80 + i)) = true := by decide +kernel
theorem mDs_80 : (List.range 20).all (fun i => mDs (80 + i)) = true := by decide +kernel
set_option maxRecDepth 100000 in
theorem mCd_100 : [591, 602, 614, 618, 630, 696, 728, 736, 741, 766, 776, 804, 812, 816, 964, 968, 998, 1007, 1011, 1019].map (fun h => lw_tbl[h]?) = [some (Cond.code yX10_child cX10_child 5 (some .int)), some (Cond.code yX10_bar cX10_bar 5 (some .boolean)), some (Cond.code yX10_cabin cX10_cabin 3 (some .int)), some (Cond.code yX10_lie cX10_lie 4 (some .boolean)), some (Cond.code yX10_house cX10_house 1 (some .int)), some (Cond.code yX10_step cX10_step 1 (some .int)), some (Cond.code yX10_better cX10_better 1 (some .int)), some (Cond.code yX10_cost cX10_cost 2 (some .int)), some (Cond.code yX10_least cX10_least 1 (some .int)), some (Cond.code yX10_task cX10_task 5 (some .int)), some (Cond.code yX10_groups cX10_groups 4 (some .int)), some (Cond.code yX10_feed cX10_feed 6 (some .int)), some (Cond.code yX10_end cX10_end 2 (some .int)), some (Cond.code yX10_game cX10_game 1 (some .int)), some (Cond.code yX10_fault cX10_fault 2 (some .int)), some (Cond.code yX10_said cX10_said 7 (some .int)), some (Cond.code yX10_night cX10_night 4 (some .int)), some (Cond.code yX10_paysSilence cX10_paysSilence 3 (some .boolean)), some (Cond.code yX10_tell cX10_tell 4 (some .int)), some (Cond.code yX10_helper cX10_helper 3 (some .int))] := rfl
theorem mOk_100 : (List.range 20).all (fun i => mOk (100 + i)) = true := by decide +kernel
theorem mDs_100 : (List.range 20).all (fun i => mDs (100 + i)) = true := by decide +kernel
set_option maxRecDepth 100000 in
theorem mCd_120 : [1023, 1047, 1051, 1059, 1055, 1063, 1067, 1073, 1077, 1085, 1106, 1114, 1140, 1148, 1162, 1167, 1379, 1647, 1650, 1644].map (fun h => lw_tbl[h]?) = [some (Cond.code yX10_watch cX10_watch 4 (some .int)), some (Cond.code yX10_watcher cX10_watcher 2 (some .int)), some (Cond.code yX10_table cX10_table 5 (some .int)), some (Cond.code yX10_met cX10_met 9 (some .int)), some (Cond.code yX10_areTables cX10_areTables 3 (some .boolean)), some (Cond.code yX10_countMeetings cX10_countMeetings 7 (some .int)), some (Cond.code yX10_doMeet cX10_doMeet 8 (some .boolean)), some (Cond.code yX10_host cX10_host 2 (some .int)), some (Cond.code yX10_like cX10_like 4 (some .boolean)), some (Cond.code yX10_give cX10_give 1 (some .int)), some (Cond.code yX10_mark cX10_mark 6 (some .boolean)), some (Cond.code yX10_held cX10_held 2 (some .int)), some (Cond.code yX10_count cX10_count 2 (some .int)), some (Cond.code yX10_image cX10_image 3 (some .boolean)), some (Cond.code yX10_again cX10_again 3 (some .boolean)), some (Cond.code yX11_init cX11_init 1 none), some (Cond.code yX11_in cX11_in 3 (some .boolean)), some (Cond.code yX11_move cX11_move 5 none), some (Cond.code yX11_moveBits cX11_moveBits 5 none), some (Cond.code yX11_copy cX11_copy 4 none)] := rfl
theorem mOk_120 : (List.range 20).all (fun i => mOk (120 + i)) = true := by decide +kernel
theorem mDs_120 : (List.range 20).all (fun i => mDs (120 + i)) = true := by decide +kernel
set_option maxRecDepth 100000 in
theorem mCd_140 : [1387, 1403, 1376, 1391, 1383, 1395, 1407, 1399, 1427, 1423, 1419, 1415, 1411, 1435, 1431, 1439, 1443, 1447, 1452, 1460].map (fun h => lw_tbl[h]?) = [some (Cond.code yX11_isChild cX11_isChild 2 (some .boolean)), some (Cond.code yX11_isCabin cX11_isCabin 2 (some .boolean)), some (Cond.code yX11_child cX11_child 6 (some .int)), some (Cond.code yX11_areBarred cX11_areBarred 3 (some .boolean)), some (Cond.code yX11_bar cX11_bar 3 (some .boolean)), some (Cond.code yX11_cabin cX11_cabin 2 (some .int)), some (Cond.code yX11_lying cX11_lying 4 (some .int)), some (Cond.code yX11_lie cX11_lie 3 (some .boolean)), some (Cond.code yX11_pairCost cX11_pairCost 4 (some .int)), some (Cond.code yX11_costOf cX11_costOf 6 (some .int)), some (Cond.code yX11_allCost cX11_allCost 3 (some .int)), some (Cond.code yX11_allBeds cX11_allBeds 3 (some .int)), some (Cond.code yX11_house cX11_house 6 (some .int)), some (Cond.code yX11_oneStep cX11_oneStep 12 (some .int)), some (Cond.code yX11_step cX11_step 1 (some .int)), some (Cond.code yX11_better cX11_better 2 (some .int)), some (Cond.code yX11_cost cX11_cost 2 (some .int)), some (Cond.code yX11_least cX11_least 8 (some .int)), some (Cond.code yX11_task cX11_task 4 (some .int)), some (Cond.code yX11_sortRow cX11_sortRow 3 none)] := rfl
theorem mOk_140 : (List.range 20).all (fun i => mOk (140 + i)) = true := by decide +kernel
theorem mDs_140 : (List.range 20).all (fun i => mDs (140 + i)) = true := by decide +kernel
set_option maxRecDepth 100000 in
theorem mCd_160 : [1464, 1456, 1468, 1472, 1476, 1488, 1484, 1501, 1530, 1521, 1496, 1526, 1492, 1505, 1480, 1538, 1550, 1546, 1542, 1554].map (fun h => lw_tbl[h]?) = [some (Cond.code yX11_runCost cX11_runCost 9 (some .int)), some (Cond.code yX11_groups cX11_groups 10 (some .int)), some (Cond.code yX11_feed cX11_feed 6 (some .int)), some (Cond.code yX11_four cX11_four 3 none), some (Cond.code yX11_end cX11_end 2 (some .int)), some (Cond.code yX11_see cX11_see 1 (some .int)), some (Cond.code yX11_next cX11_next 3 none), some (Cond.code yX11_isWord cX11_isWord 3 (some .boolean)), some (Cond.code yX11_isSign cX11_isSign 2 (some .boolean)), some (Cond.code yX11_wrong cX11_wrong 1 (some .boolean)), some (Cond.code yX11_tooMany cX11_tooMany 1 none), some (Cond.code yX11_need cX11_need 2 (some .boolean)), some (Cond.code yX11_oneLine cX11_oneLine 4 (some .boolean)), some (Cond.code yX11_test cX11_test 8 (some .boolean)), some (Cond.code yX11_game cX11_game 4 (some .int)), some (Cond.code yX11_fault cX11_fault 2 (some .int)), some (Cond.code yX11_holds cX11_holds 6 (some .boolean)), some (Cond.code yX11_played cX11_played 9 (some .int)), some (Cond.code yX11_said cX11_said 6 (some .int)), some (Cond.code yX11_night cX11_night 3 (some .int))] := rfl
theorem mOk_160 : (List.range 20).all (fun i => mOk (160 + i)) = true := by decide +kernel
theorem mDs_160 : (List.range 20).all (fun i => mDs (160 + i)) = true := by decide +kernel
set_option maxRecDepth 100000 in
theorem mCd_180 : [1558, 1562, 1566, 1573, 1581, 1584, 1577, 1570, 1588, 1599, 1596, 1592, 1603, 1607, 1611, 1619, 1615, 1627, 1623, 1631].map (fun h => lw_tbl[h]?) = [some (Cond.code yX11_paysSilence cX11_paysSilence 2 (some .boolean)), some (Cond.code yX11_tell cX11_tell 3 (some .int)), some (Cond.code yX11_helper cX11_helper 2 (some .int)), some (Cond.code yX11_ones cX11_ones 3 (some .int)), some (Cond.code yX11_may cX11_may 5 (some .boolean)), some (Cond.code yX11_rests cX11_rests 4 (some .boolean)), some (Cond.code yX11_nextSet cX11_nextSet 8 (some .int)), some (Cond.code yX11_watch cX11_watch 9 (some .int)), some (Cond.code yX11_watcher cX11_watcher 2 (some .int)), some (Cond.code yX11_tableOf cX11_tableOf 4 (some .int)), some (Cond.code yX11_areTables cX11_areTables 3 (some .boolean)), some (Cond.code yX11_table cX11_table 5 (some .int)), some (Cond.code yX11_met cX11_met 13 (some .int)), some (Cond.code yX11_host cX11_host 3 (some .int)), some (Cond.code yX11_like cX11_like 4 (some .boolean)), some (Cond.code yX11_brings cX11_brings 4 (some .int)), some (Cond.code yX11_give cX11_give 8 (some .int)), some (Cond.code yX11_marks cX11_marks 3 (some .int)), some (Cond.code yX11_mark cX11_mark 5 (some .boolean)), some (Cond.code yX11_held cX11_held 11 (some .int))] := rfl
theorem mOk_180 : (List.range 20).all (fun i => mOk (180 + i)) = true := by decide +kernel
theorem mDs_180 : (List.range 20).all (fun i => mDs (180 + i)) = true := by decide +kernel
set_option maxRecDepth 100000 in
theorem mCd_200 : [1636, 1640, 1654, 756, 650, 653, 762, 1030, 660].map (fun h => lw_tbl[h]?) = [some (Cond.code yX11_count cX11_count 4 (some .int)), some (Cond.code yX11_image cX11_image 2 (some .boolean)), some (Cond.code yX11_again cX11_again 2 (some .boolean)), some (Cond.code yJ6_bitCount_0f7a4 cJ6_bitCount_0f7a4 1 (some .int)), some (Cond.code yJ9_abs_0f7a4 cJ9_abs_0f7a4 1 (some .int)), some (Cond.code yJ9_max_7cf53 cJ9_max_7cf53 2 (some .int)), some (Cond.code yJ9_min_7cf53 cJ9_min_7cf53 2 (some .int)), some (Cond.code yJ7_fill_d0a16 cJ7_fill_d0a16 5 none), some (Cond.code yJ7_fill_53178 cJ7_fill_53178 4 none)] := rfl
theorem mOk_200 : (List.range 9).all (fun i => mOk (200 + i)) = true := by decide +kernel
theorem mDs_200 : (List.range 9).all (fun i => mDs (200 + i)) = true := by decide +kernel
def clTy (ci : Nat) : Nat → FieldType := match ci with
  | 0 => tyX0
  | 1 => tyX1
  | 2 => tyX2
  | 3 => tyX3
  | 4 => tyX4
  | 5 => tyX5
  | 6 => tyX6
  | 7 => tyX7
  | 8 => tyX8
  | 9 => tyX9
  | 10 => tyX10
  | 11 => tyX11
  | _ => fun _ => .int
def tyK (t : FieldType) (k : Nat) : Bool := match t with
  | .int => k == 0
  | .boolean => k == 1
  | .object _ => k == 2
  | .array _ => k == 2
  | .long => k == 3
  | _ => false
theorem clTy_k : ∀ ci, ci < 12 → ∀ k, k < (clE ci).2.2 → tyK (clTy ci k) (fkd (ci * 100 + k)) = true ∧ (clE ci).2.2 < 100 := by decide +kernel
theorem fT_cl : ∀ ci, ci < 12 → ∀ k, k < (clE ci).2.2 → ((clE ci).2.1 k).1 = cN ci := by decide +kernel
theorem iniV : (List.range 209).all (fun y => decide ((mY y).name = "<init>" → mR y = none)) = true := by decide +kernel
theorem vwCl_nm : ∀ ci, ci < 12 → (clE ci).1 = cN ci := by decide +kernel
theorem inX0 : ∀ w ∈ wsX00, w ∈ lwG := by
  have h : (wsX00.zip [296, 298, 300, 302, 304, 306, 308, 310, 312, 314, 316, 318, 320, 322, 324, 326, 328, 330]).all (fun q => inG q.2 q.1) = true := by decide +kernel
  exact zipG (by decide +kernel) h
theorem inX1 : ∀ w ∈ wsX10, w ∈ lwG := by
  have h : (wsX10.zip [207, 209, 211, 213, 215, 217, 219, 221, 223, 225, 227, 229, 231, 233, 235, 237, 239]).all (fun q => inG q.2 q.1) = true := by decide +kernel
  exact zipG (by decide +kernel) h
theorem inX2 : ∀ w ∈ wsX20, w ∈ lwG := by
  have h : (wsX20.zip [131, 133, 135, 137, 139, 141, 143, 145]).all (fun q => inG q.2 q.1) = true := by decide +kernel
  exact zipG (by decide +kernel) h
theorem inX3 : ∀ w ∈ wsX30, w ∈ lwG := by
  have h : (wsX30.zip [519, 521]).all (fun q => inG q.2 q.1) = true := by decide +kernel
  exact zipG (by decide +kernel) h
theorem inX4 : ∀ w ∈ wsX40, w ∈ lwG := by
  have h : (wsX40.zip [384, 386, 388, 390]).all (fun q => inG q.2 q.1) = true := by decide +kernel
  exact zipG (by decide +kernel) h
theorem inX5 : ∀ w ∈ wsX50, w ∈ lwG := by
  have h : (wsX50.zip [540, 542, 544, 546, 548, 550, 552, 554]).all (fun q => inG q.2 q.1) = true := by decide +kernel
  exact zipG (by decide +kernel) h
theorem inX6 : ∀ w ∈ wsX60, w ∈ lwG := by
  have h : (wsX60.zip [351, 353, 355, 357, 359, 361, 363, 365, 367, 369, 371]).all (fun q => inG q.2 q.1) = true := by decide +kernel
  exact zipG (by decide +kernel) h
theorem inX7 : ∀ w ∈ wsX70, w ∈ lwG := by
  have h : (wsX70.zip [469, 471, 473, 475, 477, 479]).all (fun q => inG q.2 q.1) = true := by decide +kernel
  exact zipG (by decide +kernel) h
theorem inX8 : ∀ w ∈ wsX80, w ∈ lwG := by
  have h : (wsX80.zip [418, 420, 422, 424, 426, 428, 430, 432, 434, 436, 438, 440, 442, 444, 446, 448]).all (fun q => inG q.2 q.1) = true := by decide +kernel
  exact zipG (by decide +kernel) h
theorem inX9 : ∀ w ∈ wsX90, w ∈ lwG := by
  have h : (wsX90.zip [495, 497, 499, 501, 503, 505, 507]).all (fun q => inG q.2 q.1) = true := by decide +kernel
  exact zipG (by decide +kernel) h
theorem inX10 : ∀ w ∈ wsX100, w ∈ lwG := by
  have h : (wsX100.zip [567, 569, 571, 573, 575, 577, 579, 581, 583, 585]).all (fun q => inG q.2 q.1) = true := by decide +kernel
  exact zipG (by decide +kernel) h
theorem inX11 : ∀ w ∈ wsX110, w ∈ lwG := by
  have h : (wsX110.zip [1237, 1239, 1241, 1243, 1245, 1247, 1249, 1251, 1253, 1255, 1257, 1259, 1261, 1263, 1265, 1267, 1269, 1271, 1273, 1275, 1277, 1279, 1281, 1283, 1285, 1287, 1289, 1291, 1293, 1295, 1297, 1299, 1301, 1303, 1305, 1307, 1309, 1311, 1313, 1315, 1317, 1319, 1321, 1323, 1325, 1327, 1329, 1331, 1333, 1335, 1337, 1339, 1341, 1343, 1345, 1347, 1349, 1351, 1353, 1355, 1357, 1359, 1361, 1363, 1365, 1367, 1369]).all (fun q => inG q.2 q.1) = true := by decide +kernel
  exact zipG (by decide +kernel) h
theorem inX (ci : Nat) (h : ci < 12) : (∀ w ∈ u_ws (clE ci).1 (clE ci).2.1 (clE ci).2.2, w ∈ lwG) ∧ (∀ k, k < (clE ci).2.2 → parseFieldDescriptor ((clE ci).2.1 k).2.2.1 = some (clTy ci k)) ∧ (∀ a, a < (clE ci).2.2 → ∀ b, b < (clE ci).2.2 → a ≠ b → ((clE ci).2.1 a).2.1 ≠ ((clE ci).2.1 b).2.1) ∧ vwCl[ci]? = some (clE ci) := by
  match ci, h with
  | 0, _ => exact ⟨inX0, tyX0_ok, nmX0, rfl⟩
  | 1, _ => exact ⟨inX1, tyX1_ok, nmX1, rfl⟩
  | 2, _ => exact ⟨inX2, tyX2_ok, nmX2, rfl⟩
  | 3, _ => exact ⟨inX3, tyX3_ok, nmX3, rfl⟩
  | 4, _ => exact ⟨inX4, tyX4_ok, nmX4, rfl⟩
  | 5, _ => exact ⟨inX5, tyX5_ok, nmX5, rfl⟩
  | 6, _ => exact ⟨inX6, tyX6_ok, nmX6, rfl⟩
  | 7, _ => exact ⟨inX7, tyX7_ok, nmX7, rfl⟩
  | 8, _ => exact ⟨inX8, tyX8_ok, nmX8, rfl⟩
  | 9, _ => exact ⟨inX9, tyX9_ok, nmX9, rfl⟩
  | 10, _ => exact ⟨inX10, tyX10_ok, nmX10, rfl⟩
  | 11, _ => exact ⟨inX11, tyX11_ok, nmX11, rfl⟩
  | n + 12, h => exact absurd h (by omega)
