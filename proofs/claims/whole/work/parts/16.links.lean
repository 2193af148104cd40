/-! the methods by name; the words that the walk uses, by their places -/
abbrev mX0_init : MM := (RX0, cX0_init, 1, (Option.none : Option FieldType), "<init>")
abbrev mX0_has : MM := (RX0, cX0_has, 4, (some FieldType.boolean), "has")
abbrev mX0_add : MM := (RX0, cX0_add, 4, (Option.none : Option FieldType), "add")
abbrev mX0_firstFor : MM := (RX0, cX0_firstFor, 3, (some FieldType.long), "firstFor")
abbrev mX1_init : MM := (RX1, cX1_init, 1, (Option.none : Option FieldType), "<init>")
abbrev mX1_powerOf : MM := (RX1, cX1_powerOf, 6, (some FieldType.int), "powerOf")
abbrev mX1_findStrands : MM := (RX1, cX1_findStrands, 3, (Option.none : Option FieldType), "findStrands")
abbrev mX1_walkStrand : MM := (RX1, cX1_walkStrand, 6, (Option.none : Option FieldType), "walkStrand")
abbrev mX1_rank : MM := (RX1, cX1_rank, 7, (some FieldType.int), "rank")
abbrev mX1_pivotOf : MM := (RX1, cX1_pivotOf, 5, (some FieldType.int), "pivotOf")
abbrev mX1_inverse : MM := (RX1, cX1_inverse, 3, (some FieldType.int), "inverse")
abbrev mX1_clearBelow : MM := (RX1, cX1_clearBelow, 11, (Option.none : Option FieldType), "clearBelow")
abbrev mX2_init : MM := (RX2, cX2_init, 1, (Option.none : Option FieldType), "<init>")
abbrev mX2_numberAt : MM := (RX2, cX2_numberAt, 2, (some FieldType.long), "numberAt")
abbrev mX2_empty : MM := (RX2, cX2_empty, 1, (Option.none : Option FieldType), "empty")
abbrev mX2_add : MM := (RX2, cX2_add, 4, (Option.none : Option FieldType), "add")
abbrev mX2_swapRows : MM := (RX2, cX2_swapRows, 2, (Option.none : Option FieldType), "swapRows")
abbrev mX2_multiplyByCircle : MM := (RX2, cX2_multiplyByCircle, 2, (Option.none : Option FieldType), "multiplyByCircle")
abbrev mX2_levelOut : MM := (RX2, cX2_levelOut, 4, (Option.none : Option FieldType), "levelOut")
abbrev mX2_countNumbers : MM := (RX2, cX2_countNumbers, 3, (some FieldType.int), "countNumbers")
abbrev mX2_lowest : MM := (RX2, cX2_lowest, 2, (some FieldType.int), "lowest")
abbrev mX2_highest : MM := (RX2, cX2_highest, 2, (some FieldType.int), "highest")
abbrev mX2_alternatingSize : MM := (RX2, cX2_alternatingSize, 5, (some FieldType.long), "alternatingSize")
abbrev mX2_isAs : MM := (RX2, cX2_isAs, 3, (some FieldType.boolean), "isAs")
abbrev mX2_take : MM := (RX2, cX2_take, 2, (Option.none : Option FieldType), "take")
abbrev mX3_init : MM := (RX3, cX3_init, 1, (Option.none : Option FieldType), "<init>")
abbrev mX3_holds : MM := (RX3, cX3_holds, 5, (some FieldType.boolean), "holds")
abbrev mX3_findsPart : MM := (RX3, cX3_findsPart, 6, (some FieldType.boolean), "findsPart")
abbrev mX3_assign : MM := (RX3, cX3_assign, 3, (Option.none : Option FieldType), "assign")
abbrev mX3_withdraw : MM := (RX3, cX3_withdraw, 3, (Option.none : Option FieldType), "withdraw")
abbrev mX3_spreads : MM := (RX3, cX3_spreads, 10, (some FieldType.boolean), "spreads")
abbrev mX4_init : MM := (RX4, cX4_init, 1, (Option.none : Option FieldType), "<init>")
abbrev mX4_hasEnd : MM := (RX4, cX4_hasEnd, 2, (some FieldType.boolean), "hasEnd")
abbrev mX4_allPieces : MM := (RX4, cX4_allPieces, 1, (some FieldType.int), "allPieces")
abbrev mX4_survey : MM := (RX4, cX4_survey, 2, (Option.none : Option FieldType), "survey")
abbrev mX4_blame : MM := (RX4, cX4_blame, 3, (Option.none : Option FieldType), "blame")
abbrev mX4_findFault : MM := (RX4, cX4_findFault, 3, (Option.none : Option FieldType), "findFault")
abbrev mX4_pairUp : MM := (RX4, cX4_pairUp, 5, (Option.none : Option FieldType), "pairUp")
abbrev mX4_nextInRegion : MM := (RX4, cX4_nextInRegion, 2, (some FieldType.int), "nextInRegion")
abbrev mX4_findRegions : MM := (RX4, cX4_findRegions, 2, (Option.none : Option FieldType), "findRegions")
abbrev mX4_walkRegion : MM := (RX4, cX4_walkRegion, 5, (Option.none : Option FieldType), "walkRegion")
abbrev mX4_findParts : MM := (RX4, cX4_findParts, 2, (Option.none : Option FieldType), "findParts")
abbrev mX4_spreadPart : MM := (RX4, cX4_spreadPart, 6, (Option.none : Option FieldType), "spreadPart")
abbrev mX4_findPieces : MM := (RX4, cX4_findPieces, 2, (Option.none : Option FieldType), "findPieces")
abbrev mX4_walkPiece : MM := (RX4, cX4_walkPiece, 5, (Option.none : Option FieldType), "walkPiece")
abbrev mX4_findSigns : MM := (RX4, cX4_findSigns, 4, (Option.none : Option FieldType), "findSigns")
abbrev mX4_linkOf : MM := (RX4, cX4_linkOf, 7, (some FieldType.int), "linkOf")
abbrev mX4_spell : MM := (RX4, cX4_spell, 7, (Option.none : Option FieldType), "spell")
abbrev mX4_likenessMark : MM := (RX4, cX4_likenessMark, 4, (some FieldType.int), "likenessMark")
abbrev mX5_init : MM := (RX5, cX5_init, 5, (Option.none : Option FieldType), "<init>")
abbrev mX5_number : MM := (RX5, cX5_number, 2, (some FieldType.int), "number")
abbrev mX5_isA : MM := (RX5, cX5_isA, 2, (some FieldType.boolean), "isA")
abbrev mX5_canBeUndone : MM := (RX5, cX5_canBeUndone, 1, (some FieldType.boolean), "canBeUndone")
abbrev mX5_growth : MM := (RX5, cX5_growth, 2, (some FieldType.int), "growth")
abbrev mX5_twistGrowth : MM := (RX5, cX5_twistGrowth, 1, (some FieldType.int), "twistGrowth")
abbrev mX5_applyTo : MM := (RX5, cX5_applyTo, 3, (some FieldType.int), "applyTo")
abbrev mX5_withdrawFrom : MM := (RX5, cX5_withdrawFrom, 3, (some FieldType.int), "withdrawFrom")
abbrev mX5_takeStep : MM := (RX5, cX5_takeStep, 4, (some FieldType.boolean), "takeStep")
abbrev mX5_seemsOpen : MM := (RX5, cX5_seemsOpen, 3, (some FieldType.boolean), "seemsOpen")
abbrev mX5_loopsAnswer : MM := (RX5, cX5_loopsAnswer, 1, (some FieldType.int), "loopsAnswer")
abbrev mX5_twist : MM := (RX5, cX5_twist, 7, (some FieldType.int), "twist")
abbrev mX5_addKink : MM := (RX5, cX5_addKink, 5, (Option.none : Option FieldType), "addKink")
abbrev mX5_poke : MM := (RX5, cX5_poke, 9, (some FieldType.int), "poke")
abbrev mX5_isKink : MM := (RX5, cX5_isKink, 2, (some FieldType.boolean), "isKink")
abbrev mX5_untwist : MM := (RX5, cX5_untwist, 3, (some FieldType.int), "untwist")
abbrev mX5_isLens : MM := (RX5, cX5_isLens, 4, (some FieldType.boolean), "isLens")
abbrev mX5_unpoke : MM := (RX5, cX5_unpoke, 4, (some FieldType.int), "unpoke")
abbrev mX5_isOver : MM := (RX5, cX5_isOver, 2, (some FieldType.boolean), "isOver")
abbrev mX5_isTriangle : MM := (RX5, cX5_isTriangle, 4, (some FieldType.boolean), "isTriangle")
abbrev mX5_slide : MM := (RX5, cX5_slide, 11, (some FieldType.int), "slide")
abbrev mX5_slideArc : MM := (RX5, cX5_slideArc, 6, (Option.none : Option FieldType), "slideArc")
abbrev mX5_isIn : MM := (RX5, cX5_isIn, 3, (some FieldType.boolean), "isIn")
abbrev mX5_areThere : MM := (RX5, cX5_areThere, 2, (some FieldType.boolean), "areThere")
abbrev mX5_countWaysOut : MM := (RX5, cX5_countWaysOut, 4, (some FieldType.int), "countWaysOut")
abbrev mX5_wayOut : MM := (RX5, cX5_wayOut, 6, (some FieldType.int), "wayOut")
abbrev mX5_flype : MM := (RX5, cX5_flype, 9, (some FieldType.int), "flype")
abbrev mX5_passOver : MM := (RX5, cX5_passOver, 13, (Option.none : Option FieldType), "passOver")
abbrev mX5_smooth : MM := (RX5, cX5_smooth, 3, (some FieldType.int), "smooth")
abbrev mX5_change : MM := (RX5, cX5_change, 3, (some FieldType.int), "change")
abbrev mX6_init : MM := (RX6, cX6_init, 2, (Option.none : Option FieldType), "<init>")
abbrev mX6_has : MM := (RX6, cX6_has, 2, (some FieldType.boolean), "has")
abbrev mX6_add : MM := (RX6, cX6_add, 2, (some FieldType.boolean), "add")
abbrev mX6_empty : MM := (RX6, cX6_empty, 1, (Option.none : Option FieldType), "empty")
abbrev mX6_holds : MM := (RX6, cX6_holds, 3, (some FieldType.boolean), "holds")
abbrev mX6_reverse : MM := (RX6, cX6_reverse, 3, (Option.none : Option FieldType), "reverse")
abbrev mX7_init : MM := (RX7, cX7_init, 1, (Option.none : Option FieldType), "<init>")
abbrev mX7_hasCrossing : MM := (RX7, cX7_hasCrossing, 2, (some FieldType.boolean), "hasCrossing")
abbrev mX7_empty : MM := (RX7, cX7_empty, 1, (Option.none : Option FieldType), "empty")
abbrev mX7_take : MM := (RX7, cX7_take, 2, (Option.none : Option FieldType), "take")
abbrev mX7_add : MM := (RX7, cX7_add, 5, (Option.none : Option FieldType), "add")
abbrev mX7_resize : MM := (RX7, cX7_resize, 4, (Option.none : Option FieldType), "resize")
abbrev mX7_rotate : MM := (RX7, cX7_rotate, 8, (Option.none : Option FieldType), "rotate")
abbrev mX7_flip : MM := (RX7, cX7_flip, 2, (Option.none : Option FieldType), "flip")
abbrev mX7_swap : MM := (RX7, cX7_swap, 4, (Option.none : Option FieldType), "swap")
abbrev mX7_freeArc : MM := (RX7, cX7_freeArc, 9, (some FieldType.int), "freeArc")
abbrev mX7_fuse : MM := (RX7, cX7_fuse, 4, (Option.none : Option FieldType), "fuse")
abbrev mX7_remove : MM := (RX7, cX7_remove, 3, (Option.none : Option FieldType), "remove")
abbrev mX7_append : MM := (RX7, cX7_append, 6, (Option.none : Option FieldType), "append")
abbrev mX7_remember : MM := (RX7, cX7_remember, 2, (Option.none : Option FieldType), "remember")
abbrev mX7_forget : MM := (RX7, cX7_forget, 1, (Option.none : Option FieldType), "forget")
abbrev mX7_goBack : MM := (RX7, cX7_goBack, 2, (some FieldType.boolean), "goBack")
abbrev mX7_draw : MM := (RX7, cX7_draw, 7, (some FieldType.boolean), "draw")
abbrev mX7_countPasses : MM := (RX7, cX7_countPasses, 6, (some FieldType.int), "countPasses")
abbrev mX7_drawPass : MM := (RX7, cX7_drawPass, 5, (some FieldType.boolean), "drawPass")
abbrev mX7_entryOf : MM := (RX7, cX7_entryOf, 2, (some FieldType.int), "entryOf")
abbrev mX7_closePiece : MM := (RX7, cX7_closePiece, 5, (Option.none : Option FieldType), "closePiece")
abbrev mX7_mixInto : MM := (RX7, cX7_mixInto, 5, (some FieldType.long), "mixInto")
abbrev mX8_init : MM := (RX8, cX8_init, 1, (Option.none : Option FieldType), "<init>")
abbrev mX8_begin : MM := (RX8, cX8_begin, 2, (Option.none : Option FieldType), "begin")
abbrev mX8_aimAt : MM := (RX8, cX8_aimAt, 2, (Option.none : Option FieldType), "aimAt")
abbrev mX8_takeAim : MM := (RX8, cX8_takeAim, 2, (some FieldType.boolean), "takeAim")
abbrev mX8_go : MM := (RX8, cX8_go, 5, (some FieldType.int), "go")
abbrev mX8_enterNext : MM := (RX8, cX8_enterNext, 1, (some FieldType.boolean), "enterNext")
abbrev mX8_enter : MM := (RX8, cX8_enter, 2, (Option.none : Option FieldType), "enter")
abbrev mX8_keep : MM := (RX8, cX8_keep, 5, (Option.none : Option FieldType), "keep")
abbrev mX8_smallest : MM := (RX8, cX8_smallest, 3, (some FieldType.int), "smallest")
abbrev mX8_tellWays : MM := (RX8, cX8_tellWays, 4, (Option.none : Option FieldType), "tellWays")
abbrev mX9_init : MM := (RX9, cX9_init, 1, (Option.none : Option FieldType), "<init>")
abbrev mX9_costOf : MM := (RX9, cX9_costOf, 1, (some FieldType.int), "costOf")
abbrev mX9_affords : MM := (RX9, cX9_affords, 2, (some FieldType.boolean), "affords")
abbrev mX9_makeBracket : MM := (RX9, cX9_makeBracket, 6, (Option.none : Option FieldType), "makeBracket")
abbrev mX9_makePolynomial : MM := (RX9, cX9_makePolynomial, 3, (Option.none : Option FieldType), "makePolynomial")
abbrev mX9_smoothFrom : MM := (RX9, cX9_smoothFrom, 6, (Option.none : Option FieldType), "smoothFrom")
abbrev mX9_tie : MM := (RX9, cX9_tie, 3, (some FieldType.int), "tie")
abbrev mX9_untie : MM := (RX9, cX9_untie, 3, (Option.none : Option FieldType), "untie")
abbrev mX10_init : MM := (RX10, cX10_init, 1, (Option.none : Option FieldType), "<init>")
abbrev mX10_hold : MM := (RX10, cX10_hold, 3, (Option.none : Option FieldType), "hold")
abbrev mX10_pourInto : MM := (RX10, cX10_pourInto, 3, (Option.none : Option FieldType), "pourInto")
abbrev mX10_sharesMark : MM := (RX10, cX10_sharesMark, 2, (some FieldType.boolean), "sharesMark")
abbrev mX11_init : MM := (RX11, cX11_init, 1, (Option.none : Option FieldType), "<init>")
abbrev mX11_hasPicture : MM := (RX11, cX11_hasPicture, 2, (some FieldType.boolean), "hasPicture")
abbrev mX11_hasMove : MM := (RX11, cX11_hasMove, 2, (some FieldType.boolean), "hasMove")
abbrev mX11_isWhole : MM := (RX11, cX11_isWhole, 3, (some FieldType.boolean), "isWhole")
abbrev mX11_refuse : MM := (RX11, cX11_refuse, 3, (some FieldType.int), "refuse")
abbrev mX11_grant : MM := (RX11, cX11_grant, 2, (some FieldType.int), "grant")
abbrev mX11_isFull : MM := (RX11, cX11_isFull, 1, (some FieldType.boolean), "isFull")
abbrev mX11_addLike : MM := (RX11, cX11_addLike, 3, (some FieldType.int), "addLike")
abbrev mX11_picture : MM := (RX11, cX11_picture, 1, (some FieldType.int), "picture")
abbrev mX11_isArc : MM := (RX11, cX11_isArc, 1, (some FieldType.boolean), "isArc")
abbrev mX11_crossing : MM := (RX11, cX11_crossing, 7, (some FieldType.int), "crossing")
abbrev mX11_row : MM := (RX11, cX11_row, 5, (some FieldType.int), "row")
abbrev mX11_whyOutOfReach : MM := (RX11, cX11_whyOutOfReach, 3, (some FieldType.int), "whyOutOfReach")
abbrev mX11_end : MM := (RX11, cX11_end, 5, (some FieldType.int), "end")
abbrev mX11_put : MM := (RX11, cX11_put, 6, (some FieldType.int), "put")
abbrev mX11_reaches : MM := (RX11, cX11_reaches, 3, (some FieldType.boolean), "reaches")
abbrev mX11_copy : MM := (RX11, cX11_copy, 10, (some FieldType.int), "copy")
abbrev mX11_loose : MM := (RX11, cX11_loose, 5, (some FieldType.int), "loose")
abbrev mX11_open : MM := (RX11, cX11_open, 2, (some FieldType.int), "open")
abbrev mX11_where : MM := (RX11, cX11_where, 1, (some FieldType.int), "where")
abbrev mX11_told : MM := (RX11, cX11_told, 3, (some FieldType.int), "told")
abbrev mX11_mirror : MM := (RX11, cX11_mirror, 4, (some FieldType.int), "mirror")
abbrev mX11_turn : MM := (RX11, cX11_turn, 4, (some FieldType.int), "turn")
abbrev mX11_join : MM := (RX11, cX11_join, 7, (some FieldType.int), "join")
abbrev mX11_twin : MM := (RX11, cX11_twin, 2, (some FieldType.int), "twin")
abbrev mX11_undo : MM := (RX11, cX11_undo, 2, (some FieldType.int), "undo")
abbrev mX11_sign : MM := (RX11, cX11_sign, 3, (some FieldType.int), "sign")
abbrev mX11_pieceOf : MM := (RX11, cX11_pieceOf, 3, (some FieldType.int), "pieceOf")
abbrev mX11_linking : MM := (RX11, cX11_linking, 5, (some FieldType.int), "linking")
abbrev mX11_isColourCount : MM := (RX11, cX11_isColourCount, 2, (some FieldType.boolean), "isColourCount")
abbrev mX11_colours : MM := (RX11, cX11_colours, 3, (some FieldType.int), "colours")
abbrev mX11_whyNoBracket : MM := (RX11, cX11_whyNoBracket, 3, (some FieldType.int), "whyNoBracket")
abbrev mX11_bracket : MM := (RX11, cX11_bracket, 3, (some FieldType.int), "bracket")
abbrev mX11_polynomial : MM := (RX11, cX11_polynomial, 3, (some FieldType.int), "polynomial")
abbrev mX11_at : MM := (RX11, cX11_at, 2, (some FieldType.long), "at")
abbrev mX11_power : MM := (RX11, cX11_power, 2, (some FieldType.int), "power")
abbrev mX11_determinant : MM := (RX11, cX11_determinant, 3, (some FieldType.long), "determinant")
abbrev mX11_gauss : MM := (RX11, cX11_gauss, 2, (some FieldType.int), "gauss")
abbrev mX11_type : MM := (RX11, cX11_type, 2, (some FieldType.int), "type")
abbrev mX11_clear : MM := (RX11, cX11_clear, 2, (some FieldType.int), "clear")
abbrev mX11_item : MM := (RX11, cX11_item, 2, (some FieldType.int), "item")
abbrev mX11_ofGauss : MM := (RX11, cX11_ofGauss, 1, (some FieldType.int), "ofGauss")
abbrev mX11_isKind : MM := (RX11, cX11_isKind, 1, (some FieldType.boolean), "isKind")
abbrev mX11_move : MM := (RX11, cX11_move, 5, (some FieldType.int), "move")
abbrev mX11_tells : MM := (RX11, cX11_tells, 4, (some FieldType.int), "tells")
abbrev mX11_as : MM := (RX11, cX11_as, 3, (some FieldType.int), "as")
abbrev mX11_tryMove : MM := (RX11, cX11_tryMove, 3, (some FieldType.int), "tryMove")
abbrev mX11_tryUndoing : MM := (RX11, cX11_tryUndoing, 3, (some FieldType.int), "tryUndoing")
abbrev mX11_settle : MM := (RX11, cX11_settle, 3, (some FieldType.int), "settle")
abbrev mX11_may : MM := (RX11, cX11_may, 4, (some FieldType.int), "may")
abbrev mX11_does : MM := (RX11, cX11_does, 3, (some FieldType.int), "does")
abbrev mX11_undoes : MM := (RX11, cX11_undoes, 3, (some FieldType.int), "undoes")
abbrev mX11_trace : MM := (RX11, cX11_trace, 2, (some FieldType.int), "trace")
abbrev mX11_like : MM := (RX11, cX11_like, 3, (some FieldType.int), "like")
abbrev mX11_isStepCount : MM := (RX11, cX11_isStepCount, 1, (some FieldType.boolean), "isStepCount")
abbrev mX11_search : MM := (RX11, cX11_search, 3, (some FieldType.int), "search")
abbrev mX11_goOn : MM := (RX11, cX11_goOn, 2, (some FieldType.int), "goOn")
abbrev mX11_searched : MM := (RX11, cX11_searched, 2, (some FieldType.int), "searched")
abbrev mX11_fewer : MM := (RX11, cX11_fewer, 2, (some FieldType.int), "fewer")
abbrev mX11_partingNumber : MM := (RX11, cX11_partingNumber, 3, (some FieldType.int), "partingNumber")
abbrev mX11_same : MM := (RX11, cX11_same, 5, (some FieldType.int), "same")
abbrev mX11_parted : MM := (RX11, cX11_parted, 1, (some FieldType.int), "parted")
abbrev mX11_way : MM := (RX11, cX11_way, 2, (some FieldType.int), "way")
abbrev mX11_goWays : MM := (RX11, cX11_goWays, 2, (some FieldType.boolean), "goWays")
abbrev mX11_check : MM := (RX11, cX11_check, 2, (some FieldType.int), "check")
abbrev mX11_book : MM := (RX11, cX11_book, 5, (some FieldType.int), "book")
abbrev mX11_name : MM := (RX11, cX11_name, 3, (some FieldType.long), "name")
abbrev mX11_count : MM := (RX11, cX11_count, 2, (some FieldType.int), "count")
abbrev mX11_findings : MM := (RX11, cX11_findings, 2, (some FieldType.int), "findings")
abbrev mX11_status : MM := (RX11, cX11_status, 1, (some FieldType.int), "status")
abbrev mX11_digest : MM := (RX11, cX11_digest, 4, (some FieldType.long), "digest")
abbrev mX11_corner : MM := (RX11, cX11_corner, 2, (some FieldType.int), "corner")
abbrev mX12_init : MM := (RX12, cX12_init, 2, (Option.none : Option FieldType), "<init>")
abbrev mX12_in : MM := (RX12, cX12_in, 6, (some FieldType.boolean), "in")
abbrev mX12_no : MM := (RX12, cX12_no, 2, (some FieldType.int), "no")
abbrev mX12_meets : MM := (RX12, cX12_meets, 2, (some FieldType.int), "meets")
abbrev mX12_well : MM := (RX12, cX12_well, 2, (some FieldType.int), "well")
abbrev mX12_copySlot : MM := (RX12, cX12_copySlot, 4, (Option.none : Option FieldType), "copySlot")
abbrev mX12_isPicture : MM := (RX12, cX12_isPicture, 2, (some FieldType.boolean), "isPicture")
abbrev mX12_added : MM := (RX12, cX12_added, 2, (some FieldType.int), "added")
abbrev mX12_replaced : MM := (RX12, cX12_replaced, 4, (Option.none : Option FieldType), "replaced")
abbrev mX12_picture : MM := (RX12, cX12_picture, 1, (some FieldType.int), "picture")
abbrev mX12_isArc : MM := (RX12, cX12_isArc, 1, (some FieldType.boolean), "isArc")
abbrev mX12_append : MM := (RX12, cX12_append, 7, (Option.none : Option FieldType), "append")
abbrev mX12_crossing : MM := (RX12, cX12_crossing, 6, (some FieldType.int), "crossing")
abbrev mX12_row : MM := (RX12, cX12_row, 7, (some FieldType.int), "row")
abbrev mX12_lacks : MM := (RX12, cX12_lacks, 4, (some FieldType.int), "lacks")
abbrev mX12_end : MM := (RX12, cX12_end, 5, (some FieldType.int), "end")
abbrev mX12_put : MM := (RX12, cX12_put, 6, (some FieldType.int), "put")
abbrev mX12_copy : MM := (RX12, cX12_copy, 11, (some FieldType.int), "copy")
abbrev mX12_loose : MM := (RX12, cX12_loose, 4, (some FieldType.int), "loose")
abbrev mX12_link : MM := (RX12, cX12_link, 4, (Option.none : Option FieldType), "link")
abbrev mX12_turned : MM := (RX12, cX12_turned, 2, (some FieldType.int), "turned")
abbrev mX12_nextOfFace : MM := (RX12, cX12_nextOfFace, 2, (some FieldType.int), "nextOfFace")
abbrev mX12_facesOf : MM := (RX12, cX12_facesOf, 5, (some FieldType.int), "facesOf")
abbrev mX12_partsOf : MM := (RX12, cX12_partsOf, 5, (some FieldType.int), "partsOf")
abbrev mX12_openOf : MM := (RX12, cX12_openOf, 4, (some FieldType.int), "openOf")
abbrev mX12_open : MM := (RX12, cX12_open, 3, (some FieldType.int), "open")
abbrev mX12_where : MM := (RX12, cX12_where, 1, (some FieldType.int), "where")
abbrev mX12_refusal : MM := (RX12, cX12_refusal, 2, (some FieldType.int), "refusal")
abbrev mX12_piecesOf : MM := (RX12, cX12_piecesOf, 5, (some FieldType.int), "piecesOf")
abbrev mX12_signAt : MM := (RX12, cX12_signAt, 3, (some FieldType.int), "signAt")
abbrev mX12_writheOf : MM := (RX12, cX12_writheOf, 5, (some FieldType.int), "writheOf")
abbrev mX12_told : MM := (RX12, cX12_told, 4, (some FieldType.int), "told")
abbrev mX12_sign : MM := (RX12, cX12_sign, 5, (some FieldType.int), "sign")
abbrev mX12_pieceOf : MM := (RX12, cX12_pieceOf, 5, (some FieldType.int), "pieceOf")
abbrev mX12_linking : MM := (RX12, cX12_linking, 10, (some FieldType.int), "linking")
abbrev mX12_coloursOf : MM := (RX12, cX12_coloursOf, 8, (some FieldType.int), "coloursOf")
abbrev mX12_clears : MM := (RX12, cX12_clears, 10, (Option.none : Option FieldType), "clears")
abbrev mX12_colours : MM := (RX12, cX12_colours, 4, (some FieldType.int), "colours")
abbrev mX12_circlesOf : MM := (RX12, cX12_circlesOf, 8, (some FieldType.int), "circlesOf")
abbrev mX12_bracketOf : MM := (RX12, cX12_bracketOf, 9, (Option.none : Option FieldType), "bracketOf")
abbrev mX12_timesCircle : MM := (RX12, cX12_timesCircle, 2, (Option.none : Option FieldType), "timesCircle")
abbrev mX12_polynomialOf : MM := (RX12, cX12_polynomialOf, 4, (Option.none : Option FieldType), "polynomialOf")
abbrev mX12_spends : MM := (RX12, cX12_spends, 4, (some FieldType.int), "spends")
abbrev mX12_shown : MM := (RX12, cX12_shown, 3, (some FieldType.int), "shown")
abbrev mX12_bracket : MM := (RX12, cX12_bracket, 3, (some FieldType.int), "bracket")
abbrev mX12_polynomial : MM := (RX12, cX12_polynomial, 3, (some FieldType.int), "polynomial")
abbrev mX12_at : MM := (RX12, cX12_at, 2, (some FieldType.long), "at")
abbrev mX12_power : MM := (RX12, cX12_power, 4, (some FieldType.int), "power")
abbrev mX12_determinant : MM := (RX12, cX12_determinant, 7, (some FieldType.long), "determinant")
abbrev mX12_gauss : MM := (RX12, cX12_gauss, 8, (some FieldType.int), "gauss")
abbrev mX12_type : MM := (RX12, cX12_type, 2, (some FieldType.int), "type")
abbrev mX12_clear : MM := (RX12, cX12_clear, 2, (some FieldType.int), "clear")
abbrev mX12_item : MM := (RX12, cX12_item, 2, (some FieldType.int), "item")
abbrev mX12_passes : MM := (RX12, cX12_passes, 6, (some FieldType.int), "passes")
abbrev mX12_readsGauss : MM := (RX12, cX12_readsGauss, 5, (some FieldType.boolean), "readsGauss")
abbrev mX12_ofGauss : MM := (RX12, cX12_ofGauss, 1, (some FieldType.int), "ofGauss")
abbrev mX12_free : MM := (RX12, cX12_free, 4, (some FieldType.int), "free")
abbrev mX12_joinArcs : MM := (RX12, cX12_joinArcs, 5, (Option.none : Option FieldType), "joinArcs")
abbrev mX12_takeOut : MM := (RX12, cX12_takeOut, 4, (Option.none : Option FieldType), "takeOut")
abbrev mX12_isEnd : MM := (RX12, cX12_isEnd, 3, (some FieldType.boolean), "isEnd")
abbrev mX12_arcAt : MM := (RX12, cX12_arcAt, 2, (some FieldType.int), "arcAt")
abbrev mX12_full : MM := (RX12, cX12_full, 1, (some FieldType.int), "full")
abbrev mX12_twist : MM := (RX12, cX12_twist, 7, (some FieldType.int), "twist")
abbrev mX12_untwist : MM := (RX12, cX12_untwist, 2, (some FieldType.int), "untwist")
abbrev mX12_isOfFace : MM := (RX12, cX12_isOfFace, 5, (some FieldType.boolean), "isOfFace")
abbrev mX12_poke : MM := (RX12, cX12_poke, 10, (some FieldType.int), "poke")
abbrev mX12_unpoke : MM := (RX12, cX12_unpoke, 6, (some FieldType.int), "unpoke")
abbrev mX12_slide : MM := (RX12, cX12_slide, 5, (some FieldType.int), "slide")
abbrev mX12_goesOver : MM := (RX12, cX12_goesOver, 2, (some FieldType.boolean), "goesOver")
abbrev mX12_slides : MM := (RX12, cX12_slides, 4, (Option.none : Option FieldType), "slides")
abbrev mX12_has : MM := (RX12, cX12_has, 2, (some FieldType.boolean), "has")
abbrev mX12_wayOut : MM := (RX12, cX12_wayOut, 6, (some FieldType.int), "wayOut")
abbrev mX12_flype : MM := (RX12, cX12_flype, 16, (some FieldType.int), "flype")
abbrev mX12_turnOver : MM := (RX12, cX12_turnOver, 5, (Option.none : Option FieldType), "turnOver")
abbrev mX12_smooth : MM := (RX12, cX12_smooth, 3, (some FieldType.int), "smooth")
abbrev mX12_rotate : MM := (RX12, cX12_rotate, 6, (some FieldType.int), "rotate")
abbrev mX12_moved : MM := (RX12, cX12_moved, 5, (some FieldType.int), "moved")
abbrev mX12_unmoved : MM := (RX12, cX12_unmoved, 4, (some FieldType.int), "unmoved")
abbrev mX12_move : MM := (RX12, cX12_move, 5, (some FieldType.int), "move")
abbrev mX12_isMove : MM := (RX12, cX12_isMove, 2, (some FieldType.boolean), "isMove")
abbrev mX12_body : MM := (RX12, cX12_body, 2, (Option.none : Option FieldType), "body")
abbrev mX12_tells : MM := (RX12, cX12_tells, 4, (some FieldType.int), "tells")
abbrev mX12_moreOf : MM := (RX12, cX12_moreOf, 2, (some FieldType.int), "moreOf")
abbrev mX12_trace : MM := (RX12, cX12_trace, 2, (some FieldType.int), "trace")
abbrev mX12_as : MM := (RX12, cX12_as, 5, (some FieldType.int), "as")
abbrev mX12_tried : MM := (RX12, cX12_tried, 7, (some FieldType.int), "tried")
abbrev mX12_may : MM := (RX12, cX12_may, 4, (some FieldType.int), "may")
abbrev mX12_does : MM := (RX12, cX12_does, 4, (some FieldType.int), "does")
abbrev mX12_undoes : MM := (RX12, cX12_undoes, 4, (some FieldType.int), "undoes")
abbrev mX12_allTurned : MM := (RX12, cX12_allTurned, 6, (some FieldType.int), "allTurned")
abbrev mX12_mirror : MM := (RX12, cX12_mirror, 2, (some FieldType.int), "mirror")
abbrev mX12_turn : MM := (RX12, cX12_turn, 2, (some FieldType.int), "turn")
abbrev mX12_undo : MM := (RX12, cX12_undo, 2, (some FieldType.int), "undo")
abbrev mX12_twin : MM := (RX12, cX12_twin, 2, (some FieldType.int), "twin")
abbrev mX12_join : MM := (RX12, cX12_join, 10, (some FieldType.int), "join")
abbrev mX12_fresh : MM := (RX12, cX12_fresh, 4, (some FieldType.int), "fresh")
abbrev mX12_walk : MM := (RX12, cX12_walk, 10, (some FieldType.int), "walk")
abbrev mX12_compare : MM := (RX12, cX12_compare, 7, (some FieldType.int), "compare")
abbrev mX12_codeInto : MM := (RX12, cX12_codeInto, 12, (Option.none : Option FieldType), "codeInto")
abbrev mX12_sortInto : MM := (RX12, cX12_sortInto, 9, (Option.none : Option FieldType), "sortInto")
abbrev mX12_areAlike : MM := (RX12, cX12_areAlike, 5, (some FieldType.boolean), "areAlike")
abbrev mX12_like : MM := (RX12, cX12_like, 3, (some FieldType.int), "like")
abbrev mX12_beginSearch : MM := (RX12, cX12_beginSearch, 2, (Option.none : Option FieldType), "beginSearch")
abbrev mX12_stepped : MM := (RX12, cX12_stepped, 3, (some FieldType.int), "stepped")
abbrev mX12_kept : MM := (RX12, cX12_kept, 3, (some FieldType.boolean), "kept")
abbrev mX12_goes : MM := (RX12, cX12_goes, 6, (some FieldType.int), "goes")
abbrev mX12_search : MM := (RX12, cX12_search, 3, (some FieldType.int), "search")
abbrev mX12_goOn : MM := (RX12, cX12_goOn, 2, (some FieldType.int), "goOn")
abbrev mX12_fewest : MM := (RX12, cX12_fewest, 3, (some FieldType.int), "fewest")
abbrev mX12_searched : MM := (RX12, cX12_searched, 2, (some FieldType.int), "searched")
abbrev mX12_waysTo : MM := (RX12, cX12_waysTo, 4, (Option.none : Option FieldType), "waysTo")
abbrev mX12_fewer : MM := (RX12, cX12_fewer, 2, (some FieldType.int), "fewer")
abbrev mX12_partsBy : MM := (RX12, cX12_partsBy, 7, (some FieldType.int), "partsBy")
abbrev mX12_polynomialsPart : MM := (RX12, cX12_polynomialsPart, 5, (some FieldType.boolean), "polynomialsPart")
abbrev mX12_same : MM := (RX12, cX12_same, 6, (some FieldType.int), "same")
abbrev mX12_parted : MM := (RX12, cX12_parted, 1, (some FieldType.int), "parted")
abbrev mX12_way : MM := (RX12, cX12_way, 2, (some FieldType.int), "way")
abbrev mX12_check : MM := (RX12, cX12_check, 3, (some FieldType.int), "check")
abbrev mX12_named : MM := (RX12, cX12_named, 4, (some FieldType.int), "named")
abbrev mX12_book : MM := (RX12, cX12_book, 6, (some FieldType.int), "book")
abbrev mX12_name : MM := (RX12, cX12_name, 5, (some FieldType.long), "name")
abbrev mX12_count : MM := (RX12, cX12_count, 2, (some FieldType.int), "count")
abbrev mX12_findings : MM := (RX12, cX12_findings, 2, (some FieldType.int), "findings")
abbrev mX12_status : MM := (RX12, cX12_status, 1, (some FieldType.int), "status")
abbrev mX12_digest : MM := (RX12, cX12_digest, 6, (some FieldType.long), "digest")
abbrev mJ9_floorMod_7cf53 : MM := (RJ9, cJ9_floorMod_7cf53, 3, (some FieldType.int), "floorMod")
abbrev mJ9_abs_067f4 : MM := (RJ9, cJ9_abs_067f4, 2, (some FieldType.long), "abs")
abbrev mJ9_max_7cf53 : MM := (RJ9, cJ9_max_7cf53, 2, (some FieldType.int), "max")
abbrev mJ9_min_7cf53 : MM := (RJ9, cJ9_min_7cf53, 2, (some FieldType.int), "min")
abbrev mJ7_rangeCheck_23922 : MM := (RJ7, cJ7_rangeCheck_23922, 3, (Option.none : Option FieldType), "rangeCheck")
abbrev mJ7_fill_d0a16 : MM := (RJ7, cJ7_fill_d0a16, 5, (Option.none : Option FieldType), "fill")
abbrev mJ7_fill_53178 : MM := (RJ7, cJ7_fill_53178, 4, (Option.none : Option FieldType), "fill")
abbrev mJ7_fill_fda19 : MM := (RJ7, cJ7_fill_fda19, 5, (Option.none : Option FieldType), "fill")
abbrev mL_law : MM := (RL, code, 4, some .boolean, "law")
theorem tb_1 {w : Cond} (h : w ∈ tables_1_1) (hk : tw_k w = true) : w ∈ tw_l := List.mem_filter.mpr ⟨List.mem_append_right _ (show w ∈ tables_1 from List.mem_append_left _ h), hk⟩
theorem tb_2 {w : Cond} (h : w ∈ tables_1_2) (hk : tw_k w = true) : w ∈ tw_l := List.mem_filter.mpr ⟨List.mem_append_right _ (show w ∈ tables_1 from List.mem_append_right _ (List.mem_append_left _ h)), hk⟩
theorem tb_3 {w : Cond} (h : w ∈ tables_1_3) (hk : tw_k w = true) : w ∈ tw_l := List.mem_filter.mpr ⟨List.mem_append_right _ (show w ∈ tables_1 from List.mem_append_right _ (List.mem_append_right _ (List.mem_append_left _ h))), hk⟩
theorem tb_4 {w : Cond} (h : w ∈ tables_1_4) (hk : tw_k w = true) : w ∈ tw_l := List.mem_filter.mpr ⟨List.mem_append_right _ (show w ∈ tables_1 from List.mem_append_right _ (List.mem_append_right _ (List.mem_append_right _ (List.mem_append_left _ h)))), hk⟩
theorem tb_5 {w : Cond} (h : w ∈ tables_1_5) (hk : tw_k w = true) : w ∈ tw_l := List.mem_filter.mpr ⟨List.mem_append_right _ (show w ∈ tables_1 from List.mem_append_right _ (List.mem_append_right _ (List.mem_append_right _ (List.mem_append_right _ (List.mem_append_left _ h))))), hk⟩
theorem tb_6 {w : Cond} (h : w ∈ tables_1_6) (hk : tw_k w = true) : w ∈ tw_l := List.mem_filter.mpr ⟨List.mem_append_right _ (show w ∈ tables_1 from List.mem_append_right _ (List.mem_append_right _ (List.mem_append_right _ (List.mem_append_right _ (List.mem_append_right _ (List.mem_append_left _ h)))))), hk⟩
theorem tb_7 {w : Cond} (h : w ∈ tables_1_7) (hk : tw_k w = true) : w ∈ tw_l := List.mem_filter.mpr ⟨List.mem_append_right _ (show w ∈ tables_1 from List.mem_append_right _ (List.mem_append_right _ (List.mem_append_right _ (List.mem_append_right _ (List.mem_append_right _ (List.mem_append_right _ (List.mem_append_left _ h))))))), hk⟩
theorem tb_8 {w : Cond} (h : w ∈ tables_1_8) (hk : tw_k w = true) : w ∈ tw_l := List.mem_filter.mpr ⟨List.mem_append_right _ (show w ∈ tables_1 from List.mem_append_right _ (List.mem_append_right _ (List.mem_append_right _ (List.mem_append_right _ (List.mem_append_right _ (List.mem_append_right _ (List.mem_append_right _ (List.mem_append_left _ h)))))))), hk⟩
theorem tb_9 {w : Cond} (h : w ∈ tables_1_9) (hk : tw_k w = true) : w ∈ tw_l := List.mem_filter.mpr ⟨List.mem_append_right _ (show w ∈ tables_1 from List.mem_append_right _ (List.mem_append_right _ (List.mem_append_right _ (List.mem_append_right _ (List.mem_append_right _ (List.mem_append_right _ (List.mem_append_right _ (List.mem_append_right _ (h))))))))), hk⟩
theorem tp_1 {q : MethodName × Nat} (h : q ∈ lw_privs_1) : Cond.selects q.1.cls q.1 q.1 ∈ tw_l := List.mem_filter.mpr ⟨List.mem_append_left _ (List.mem_map.mpr ⟨q, (show q ∈ lw_privs from List.mem_append_left _ h), rfl⟩), rfl⟩
theorem tp_2 {q : MethodName × Nat} (h : q ∈ lw_privs_2) : Cond.selects q.1.cls q.1 q.1 ∈ tw_l := List.mem_filter.mpr ⟨List.mem_append_left _ (List.mem_map.mpr ⟨q, (show q ∈ lw_privs from List.mem_append_right _ (List.mem_append_left _ h)), rfl⟩), rfl⟩
theorem tp_3 {q : MethodName × Nat} (h : q ∈ lw_privs_3) : Cond.selects q.1.cls q.1 q.1 ∈ tw_l := List.mem_filter.mpr ⟨List.mem_append_left _ (List.mem_map.mpr ⟨q, (show q ∈ lw_privs from List.mem_append_right _ (List.mem_append_right _ (List.mem_append_left _ h))), rfl⟩), rfl⟩
theorem tp_4 {q : MethodName × Nat} (h : q ∈ lw_privs_4) : Cond.selects q.1.cls q.1 q.1 ∈ tw_l := List.mem_filter.mpr ⟨List.mem_append_left _ (List.mem_map.mpr ⟨q, (show q ∈ lw_privs from List.mem_append_right _ (List.mem_append_right _ (List.mem_append_right _ (List.mem_append_left _ h)))), rfl⟩), rfl⟩
theorem tp_5 {q : MethodName × Nat} (h : q ∈ lw_privs_5) : Cond.selects q.1.cls q.1 q.1 ∈ tw_l := List.mem_filter.mpr ⟨List.mem_append_left _ (List.mem_map.mpr ⟨q, (show q ∈ lw_privs from List.mem_append_right _ (List.mem_append_right _ (List.mem_append_right _ (List.mem_append_right _ (List.mem_append_left _ h))))), rfl⟩), rfl⟩
theorem tp_6 {q : MethodName × Nat} (h : q ∈ lw_privs_6) : Cond.selects q.1.cls q.1 q.1 ∈ tw_l := List.mem_filter.mpr ⟨List.mem_append_left _ (List.mem_map.mpr ⟨q, (show q ∈ lw_privs from List.mem_append_right _ (List.mem_append_right _ (List.mem_append_right _ (List.mem_append_right _ (List.mem_append_right _ (List.mem_append_left _ h)))))), rfl⟩), rfl⟩
theorem tp_7 {q : MethodName × Nat} (h : q ∈ lw_privs_7) : Cond.selects q.1.cls q.1 q.1 ∈ tw_l := List.mem_filter.mpr ⟨List.mem_append_left _ (List.mem_map.mpr ⟨q, (show q ∈ lw_privs from List.mem_append_right _ (List.mem_append_right _ (List.mem_append_right _ (List.mem_append_right _ (List.mem_append_right _ (List.mem_append_right _ (h))))))), rfl⟩), rfl⟩
theorem wd_0 : Cond.selects RX11 yX11_isFull yX11_isFull ∈ tw_l := tp_1 (List.mem_of_getElem? (i := 0) rfl)
theorem wd_1 : Cond.selects RX11 yX11_refuse yX11_refuse ∈ tw_l := tp_1 (List.mem_of_getElem? (i := 1) rfl)
theorem wd_2 : Cond.selects RX11 yX11_addLike yX11_addLike ∈ tw_l := tp_1 (List.mem_of_getElem? (i := 2) rfl)
theorem wd_3 : Cond.selects RX11 yX11_grant yX11_grant ∈ tw_l := tp_1 (List.mem_of_getElem? (i := 3) rfl)
theorem wd_4 : Cond.selects RX11 yX11_hasPicture yX11_hasPicture ∈ tw_l := tp_1 (List.mem_of_getElem? (i := 4) rfl)
theorem wd_5 : Cond.selects RX4 yX4_findFault yX4_findFault ∈ tw_l := tp_1 (List.mem_of_getElem? (i := 5) rfl)
theorem wd_6 : Cond.selects RX4 yX4_blame yX4_blame ∈ tw_l := tp_1 (List.mem_of_getElem? (i := 6) rfl)
theorem wd_7 : Cond.selects RX4 yX4_walkRegion yX4_walkRegion ∈ tw_l := tp_1 (List.mem_of_getElem? (i := 7) rfl)
theorem wd_8 : Cond.selects RX4 yX4_findParts yX4_findParts ∈ tw_l := tp_1 (List.mem_of_getElem? (i := 8) rfl)
theorem wd_9 : Cond.selects RX4 yX4_spreadPart yX4_spreadPart ∈ tw_l := tp_1 (List.mem_of_getElem? (i := 9) rfl)
theorem wd_10 : Cond.selects RX4 yX4_findPieces yX4_findPieces ∈ tw_l := tp_1 (List.mem_of_getElem? (i := 10) rfl)
theorem wd_11 : Cond.selects RX4 yX4_walkPiece yX4_walkPiece ∈ tw_l := tp_1 (List.mem_of_getElem? (i := 11) rfl)
theorem wd_12 : Cond.selects RX4 yX4_findSigns yX4_findSigns ∈ tw_l := tp_1 (List.mem_of_getElem? (i := 12) rfl)
theorem wd_13 : Cond.selects RX11 yX11_isWhole yX11_isWhole ∈ tw_l := tp_1 (List.mem_of_getElem? (i := 13) rfl)
theorem wd_14 : Cond.selects RX7 yX7_swap yX7_swap ∈ tw_l := tp_1 (List.mem_of_getElem? (i := 14) rfl)
theorem wd_15 : Cond.selects RX1 yX1_findStrands yX1_findStrands ∈ tw_l := tp_1 (List.mem_of_getElem? (i := 15) rfl)
theorem wd_16 : Cond.selects RX1 yX1_walkStrand yX1_walkStrand ∈ tw_l := tp_2 (List.mem_of_getElem? (i := 0) rfl)
theorem wd_17 : Cond.selects RX1 yX1_rank yX1_rank ∈ tw_l := tp_2 (List.mem_of_getElem? (i := 1) rfl)
theorem wd_18 : Cond.selects RX1 yX1_pivotOf yX1_pivotOf ∈ tw_l := tp_2 (List.mem_of_getElem? (i := 2) rfl)
theorem wd_19 : Cond.selects RX1 yX1_clearBelow yX1_clearBelow ∈ tw_l := tp_2 (List.mem_of_getElem? (i := 3) rfl)
theorem wd_20 : Cond.selects RX11 yX11_whyNoBracket yX11_whyNoBracket ∈ tw_l := tp_2 (List.mem_of_getElem? (i := 4) rfl)
theorem wd_21 : Cond.selects RX9 yX9_smoothFrom yX9_smoothFrom ∈ tw_l := tp_2 (List.mem_of_getElem? (i := 5) rfl)
theorem wd_22 : Cond.selects RX9 yX9_tie yX9_tie ∈ tw_l := tp_2 (List.mem_of_getElem? (i := 6) rfl)
theorem wd_23 : Cond.selects RX9 yX9_untie yX9_untie ∈ tw_l := tp_2 (List.mem_of_getElem? (i := 7) rfl)
theorem wd_24 : Cond.selects RX2 yX2_swapRows yX2_swapRows ∈ tw_l := tp_2 (List.mem_of_getElem? (i := 8) rfl)
theorem wd_25 : Cond.selects RX7 yX7_closePiece yX7_closePiece ∈ tw_l := tp_2 (List.mem_of_getElem? (i := 9) rfl)
theorem wd_26 : Cond.selects RX7 yX7_drawPass yX7_drawPass ∈ tw_l := tp_2 (List.mem_of_getElem? (i := 10) rfl)
theorem wd_27 : Cond.selects RX11 yX11_hasMove yX11_hasMove ∈ tw_l := tp_2 (List.mem_of_getElem? (i := 11) rfl)
theorem wd_28 : Cond.selects RX11 yX11_tryMove yX11_tryMove ∈ tw_l := tp_2 (List.mem_of_getElem? (i := 12) rfl)
theorem wd_29 : Cond.selects RX5 yX5_twist yX5_twist ∈ tw_l := tp_2 (List.mem_of_getElem? (i := 13) rfl)
theorem wd_30 : Cond.selects RX5 yX5_addKink yX5_addKink ∈ tw_l := tp_2 (List.mem_of_getElem? (i := 14) rfl)
theorem wd_31 : Cond.selects RX5 yX5_poke yX5_poke ∈ tw_l := tp_2 (List.mem_of_getElem? (i := 15) rfl)
theorem wd_32 : Cond.selects RX5 yX5_flype yX5_flype ∈ tw_l := tp_3 (List.mem_of_getElem? (i := 0) rfl)
theorem wd_33 : Cond.selects RX5 yX5_smooth yX5_smooth ∈ tw_l := tp_3 (List.mem_of_getElem? (i := 1) rfl)
theorem wd_34 : Cond.selects RX5 yX5_change yX5_change ∈ tw_l := tp_3 (List.mem_of_getElem? (i := 2) rfl)
theorem wd_35 : Cond.selects RX11 yX11_settle yX11_settle ∈ tw_l := tp_3 (List.mem_of_getElem? (i := 3) rfl)
theorem wd_36 : Cond.selects RX11 yX11_tryUndoing yX11_tryUndoing ∈ tw_l := tp_3 (List.mem_of_getElem? (i := 4) rfl)
theorem wd_37 : Cond.selects RX3 yX3_findsPart yX3_findsPart ∈ tw_l := tp_3 (List.mem_of_getElem? (i := 5) rfl)
theorem wd_38 : Cond.selects RX3 yX3_assign yX3_assign ∈ tw_l := tp_3 (List.mem_of_getElem? (i := 6) rfl)
theorem wd_39 : Cond.selects RX3 yX3_spreads yX3_spreads ∈ tw_l := tp_3 (List.mem_of_getElem? (i := 7) rfl)
theorem wd_40 : Cond.selects RX3 yX3_withdraw yX3_withdraw ∈ tw_l := tp_3 (List.mem_of_getElem? (i := 8) rfl)
theorem wd_41 : Cond.selects RX8 yX8_keep yX8_keep ∈ tw_l := tp_3 (List.mem_of_getElem? (i := 9) rfl)
theorem wd_42 : Cond.selects RX8 yX8_enter yX8_enter ∈ tw_l := tp_3 (List.mem_of_getElem? (i := 10) rfl)
theorem wd_43 : Cond.selects RX8 yX8_enterNext yX8_enterNext ∈ tw_l := tp_3 (List.mem_of_getElem? (i := 11) rfl)
theorem wd_44 : Cond.selects RX11 yX11_partingNumber yX11_partingNumber ∈ tw_l := tp_3 (List.mem_of_getElem? (i := 12) rfl)
theorem wd_45 : Cond.selects RX11 yX11_goWays yX11_goWays ∈ tw_l := tp_3 (List.mem_of_getElem? (i := 13) rfl)
theorem wd_46 : Cond.selects RX12 yX12_no yX12_no ∈ tw_l := tp_3 (List.mem_of_getElem? (i := 14) rfl)
theorem wd_47 : Cond.selects RX12 yX12_well yX12_well ∈ tw_l := tp_3 (List.mem_of_getElem? (i := 15) rfl)
theorem wd_48 : Cond.selects RX12 yX12_isPicture yX12_isPicture ∈ tw_l := tp_4 (List.mem_of_getElem? (i := 0) rfl)
theorem wd_49 : Cond.selects RX12 yX12_append yX12_append ∈ tw_l := tp_4 (List.mem_of_getElem? (i := 1) rfl)
theorem wd_50 : Cond.selects RX12 yX12_meets yX12_meets ∈ tw_l := tp_4 (List.mem_of_getElem? (i := 2) rfl)
theorem wd_51 : Cond.selects RX12 yX12_lacks yX12_lacks ∈ tw_l := tp_4 (List.mem_of_getElem? (i := 3) rfl)
theorem wd_52 : Cond.selects RX12 yX12_openOf yX12_openOf ∈ tw_l := tp_4 (List.mem_of_getElem? (i := 4) rfl)
theorem wd_53 : Cond.selects RX12 yX12_link yX12_link ∈ tw_l := tp_4 (List.mem_of_getElem? (i := 5) rfl)
theorem wd_54 : Cond.selects RX12 yX12_facesOf yX12_facesOf ∈ tw_l := tp_4 (List.mem_of_getElem? (i := 6) rfl)
theorem wd_55 : Cond.selects RX12 yX12_nextOfFace yX12_nextOfFace ∈ tw_l := tp_4 (List.mem_of_getElem? (i := 7) rfl)
theorem wd_56 : Cond.selects RX12 yX12_partsOf yX12_partsOf ∈ tw_l := tp_4 (List.mem_of_getElem? (i := 8) rfl)
theorem wd_57 : Cond.selects RX12 yX12_refusal yX12_refusal ∈ tw_l := tp_4 (List.mem_of_getElem? (i := 9) rfl)
theorem wd_58 : Cond.selects RX12 yX12_piecesOf yX12_piecesOf ∈ tw_l := tp_4 (List.mem_of_getElem? (i := 10) rfl)
theorem wd_59 : Cond.selects RX12 yX12_writheOf yX12_writheOf ∈ tw_l := tp_4 (List.mem_of_getElem? (i := 11) rfl)
theorem wd_60 : Cond.selects RX12 yX12_signAt yX12_signAt ∈ tw_l := tp_4 (List.mem_of_getElem? (i := 12) rfl)
theorem wd_61 : Cond.selects RX12 yX12_coloursOf yX12_coloursOf ∈ tw_l := tp_4 (List.mem_of_getElem? (i := 13) rfl)
theorem wd_62 : Cond.selects RX12 yX12_spends yX12_spends ∈ tw_l := tp_4 (List.mem_of_getElem? (i := 14) rfl)
theorem wd_63 : Cond.selects RX12 yX12_bracketOf yX12_bracketOf ∈ tw_l := tp_4 (List.mem_of_getElem? (i := 15) rfl)
theorem wd_64 : Cond.selects RX12 yX12_circlesOf yX12_circlesOf ∈ tw_l := tp_5 (List.mem_of_getElem? (i := 0) rfl)
theorem wd_65 : Cond.selects RX12 yX12_timesCircle yX12_timesCircle ∈ tw_l := tp_5 (List.mem_of_getElem? (i := 1) rfl)
theorem wd_66 : Cond.selects RX12 yX12_shown yX12_shown ∈ tw_l := tp_5 (List.mem_of_getElem? (i := 2) rfl)
theorem wd_67 : Cond.selects RX12 yX12_polynomialOf yX12_polynomialOf ∈ tw_l := tp_5 (List.mem_of_getElem? (i := 3) rfl)
theorem wd_68 : Cond.selects RX12 yX12_readsGauss yX12_readsGauss ∈ tw_l := tp_5 (List.mem_of_getElem? (i := 4) rfl)
theorem wd_69 : Cond.selects RX12 yX12_passes yX12_passes ∈ tw_l := tp_5 (List.mem_of_getElem? (i := 5) rfl)
theorem wd_70 : Cond.selects RX12 yX12_added yX12_added ∈ tw_l := tp_5 (List.mem_of_getElem? (i := 6) rfl)
theorem wd_71 : Cond.selects RX12 yX12_copySlot yX12_copySlot ∈ tw_l := tp_5 (List.mem_of_getElem? (i := 7) rfl)
theorem wd_72 : Cond.selects RX12 yX12_isMove yX12_isMove ∈ tw_l := tp_5 (List.mem_of_getElem? (i := 8) rfl)
theorem wd_73 : Cond.selects RX12 yX12_moreOf yX12_moreOf ∈ tw_l := tp_5 (List.mem_of_getElem? (i := 9) rfl)
theorem wd_74 : Cond.selects RX12 yX12_body yX12_body ∈ tw_l := tp_5 (List.mem_of_getElem? (i := 10) rfl)
theorem wd_75 : Cond.selects RX12 yX12_tried yX12_tried ∈ tw_l := tp_5 (List.mem_of_getElem? (i := 11) rfl)
theorem wd_76 : Cond.selects RX12 yX12_unmoved yX12_unmoved ∈ tw_l := tp_5 (List.mem_of_getElem? (i := 12) rfl)
theorem wd_77 : Cond.selects RX12 yX12_untwist yX12_untwist ∈ tw_l := tp_5 (List.mem_of_getElem? (i := 13) rfl)
theorem wd_78 : Cond.selects RX12 yX12_isEnd yX12_isEnd ∈ tw_l := tp_5 (List.mem_of_getElem? (i := 14) rfl)
theorem wd_79 : Cond.selects RX12 yX12_arcAt yX12_arcAt ∈ tw_l := tp_5 (List.mem_of_getElem? (i := 15) rfl)
theorem wd_80 : Cond.selects RX12 yX12_joinArcs yX12_joinArcs ∈ tw_l := tp_6 (List.mem_of_getElem? (i := 0) rfl)
theorem wd_81 : Cond.selects RX12 yX12_takeOut yX12_takeOut ∈ tw_l := tp_6 (List.mem_of_getElem? (i := 1) rfl)
theorem wd_82 : Cond.selects RX12 yX12_full yX12_full ∈ tw_l := tp_6 (List.mem_of_getElem? (i := 2) rfl)
theorem wd_83 : Cond.selects RX12 yX12_unpoke yX12_unpoke ∈ tw_l := tp_6 (List.mem_of_getElem? (i := 3) rfl)
theorem wd_84 : Cond.selects RX12 yX12_slide yX12_slide ∈ tw_l := tp_6 (List.mem_of_getElem? (i := 4) rfl)
theorem wd_85 : Cond.selects RX12 yX12_goesOver yX12_goesOver ∈ tw_l := tp_6 (List.mem_of_getElem? (i := 5) rfl)
theorem wd_86 : Cond.selects RX12 yX12_slides yX12_slides ∈ tw_l := tp_6 (List.mem_of_getElem? (i := 6) rfl)
theorem wd_87 : Cond.selects RX12 yX12_flype yX12_flype ∈ tw_l := tp_6 (List.mem_of_getElem? (i := 7) rfl)
theorem wd_88 : Cond.selects RX12 yX12_wayOut yX12_wayOut ∈ tw_l := tp_6 (List.mem_of_getElem? (i := 8) rfl)
theorem wd_89 : Cond.selects RX12 yX12_turnOver yX12_turnOver ∈ tw_l := tp_6 (List.mem_of_getElem? (i := 9) rfl)
theorem wd_90 : Cond.selects RX12 yX12_rotate yX12_rotate ∈ tw_l := tp_6 (List.mem_of_getElem? (i := 10) rfl)
theorem wd_91 : Cond.selects RX12 yX12_moved yX12_moved ∈ tw_l := tp_6 (List.mem_of_getElem? (i := 11) rfl)
theorem wd_92 : Cond.selects RX12 yX12_twist yX12_twist ∈ tw_l := tp_6 (List.mem_of_getElem? (i := 12) rfl)
theorem wd_93 : Cond.selects RX12 yX12_free yX12_free ∈ tw_l := tp_6 (List.mem_of_getElem? (i := 13) rfl)
theorem wd_94 : Cond.selects RX12 yX12_poke yX12_poke ∈ tw_l := tp_6 (List.mem_of_getElem? (i := 14) rfl)
theorem wd_95 : Cond.selects RX12 yX12_isOfFace yX12_isOfFace ∈ tw_l := tp_6 (List.mem_of_getElem? (i := 15) rfl)
theorem wd_96 : Cond.selects RX12 yX12_smooth yX12_smooth ∈ tw_l := tp_7 (List.mem_of_getElem? (i := 0) rfl)
theorem wd_97 : Cond.selects RX12 yX12_replaced yX12_replaced ∈ tw_l := tp_7 (List.mem_of_getElem? (i := 1) rfl)
theorem wd_98 : Cond.selects RX12 yX12_allTurned yX12_allTurned ∈ tw_l := tp_7 (List.mem_of_getElem? (i := 2) rfl)
theorem wd_99 : Cond.selects RX12 yX12_fresh yX12_fresh ∈ tw_l := tp_7 (List.mem_of_getElem? (i := 3) rfl)
theorem wd_100 : Cond.selects RX12 yX12_codeInto yX12_codeInto ∈ tw_l := tp_7 (List.mem_of_getElem? (i := 4) rfl)
theorem wd_101 : Cond.selects RX12 yX12_walk yX12_walk ∈ tw_l := tp_7 (List.mem_of_getElem? (i := 5) rfl)
theorem wd_102 : Cond.selects RX12 yX12_sortInto yX12_sortInto ∈ tw_l := tp_7 (List.mem_of_getElem? (i := 6) rfl)
theorem wd_103 : Cond.selects RX12 yX12_beginSearch yX12_beginSearch ∈ tw_l := tp_7 (List.mem_of_getElem? (i := 7) rfl)
theorem wd_104 : Cond.selects RX12 yX12_goes yX12_goes ∈ tw_l := tp_7 (List.mem_of_getElem? (i := 8) rfl)
theorem wd_105 : Cond.selects RX12 yX12_stepped yX12_stepped ∈ tw_l := tp_7 (List.mem_of_getElem? (i := 9) rfl)
theorem wd_106 : Cond.selects RX12 yX12_kept yX12_kept ∈ tw_l := tp_7 (List.mem_of_getElem? (i := 10) rfl)
theorem wd_107 : Cond.selects RX12 yX12_fewest yX12_fewest ∈ tw_l := tp_7 (List.mem_of_getElem? (i := 11) rfl)
theorem wd_108 : Cond.selects RX12 yX12_waysTo yX12_waysTo ∈ tw_l := tp_7 (List.mem_of_getElem? (i := 12) rfl)
theorem wd_109 : Cond.selects RX12 yX12_partsBy yX12_partsBy ∈ tw_l := tp_7 (List.mem_of_getElem? (i := 13) rfl)
theorem wd_110 : Cond.selects RX12 yX12_polynomialsPart yX12_polynomialsPart ∈ tw_l := tp_7 (List.mem_of_getElem? (i := 14) rfl)
theorem wd_111 : Cond.selects RX12 yX12_named yX12_named ∈ tw_l := tp_7 (List.mem_of_getElem? (i := 15) rfl)
theorem wd_112 : Cond.initialized RL ∈ tw_l := tb_1 (List.mem_of_getElem? (i := 0) rfl) rfl
theorem wd_113 : Cond.initialized RX11 ∈ tw_l := tb_1 (List.mem_of_getElem? (i := 1) rfl) rfl
theorem wd_114 : Cond.initialized RX6 ∈ tw_l := tb_1 (List.mem_of_getElem? (i := 2) rfl) rfl
theorem wd_115 : Cond.initialized RJ9 ∈ tw_l := tb_1 (List.mem_of_getElem? (i := 3) rfl) rfl
theorem wd_116 : Cond.initialized RX4 ∈ tw_l := tb_1 (List.mem_of_getElem? (i := 4) rfl) rfl
theorem wd_117 : Cond.initialized RX7 ∈ tw_l := tb_1 (List.mem_of_getElem? (i := 5) rfl) rfl
theorem wd_118 : Cond.initialized RJ7 ∈ tw_l := tb_1 (List.mem_of_getElem? (i := 6) rfl) rfl
theorem wd_119 : Cond.initialized RX9 ∈ tw_l := tb_1 (List.mem_of_getElem? (i := 7) rfl) rfl
theorem wd_120 : Cond.initialized RX2 ∈ tw_l := tb_1 (List.mem_of_getElem? (i := 8) rfl) rfl
theorem wd_121 : Cond.initialized RX1 ∈ tw_l := tb_1 (List.mem_of_getElem? (i := 9) rfl) rfl
theorem wd_122 : Cond.initialized RX8 ∈ tw_l := tb_1 (List.mem_of_getElem? (i := 10) rfl) rfl
theorem wd_123 : Cond.initialized RX10 ∈ tw_l := tb_1 (List.mem_of_getElem? (i := 11) rfl) rfl
theorem wd_124 : Cond.initialized RX3 ∈ tw_l := tb_1 (List.mem_of_getElem? (i := 12) rfl) rfl
theorem wd_125 : Cond.initialized RX0 ∈ tw_l := tb_1 (List.mem_of_getElem? (i := 13) rfl) rfl
theorem wd_126 : Cond.initialized RX12 ∈ tw_l := tb_1 (List.mem_of_getElem? (i := 14) rfl) rfl
theorem wd_127 : Cond.initialized RJ10 ∈ tw_l := tb_1 (List.mem_of_getElem? (i := 15) rfl) rfl
theorem wd_128 : Cond.initialized RX5 ∈ tw_l := tb_1 (List.mem_of_getElem? (i := 16) rfl) rfl
theorem wd_129 : Cond.classLink RL 7 RX11 ∈ tw_l := tb_1 (List.mem_of_getElem? (i := 17) rfl) rfl
theorem wd_130 : Cond.instantiable RX11 20 ∈ tw_l := tb_1 (List.mem_of_getElem? (i := 18) rfl) rfl
theorem wd_131 : Cond.methodLink RL 9 yX11_init ∈ tw_l := tb_1 (List.mem_of_getElem? (i := 19) rfl) rfl
theorem wd_132 : Cond.instanceMethod yX11_init ∈ tw_l := tb_1 (List.mem_of_getElem? (i := 20) rfl) rfl
theorem wd_133 : Cond.code yX11_init cX11_init 1 (Option.none : Option FieldType) ∈ tw_l := tb_1 (List.mem_of_getElem? (i := 21) rfl) rfl
theorem wd_134 : Cond.methodLink RX11 3 Lib.objectInit ∈ tw_l := tb_1 (List.mem_of_getElem? (i := 22) rfl) rfl
theorem wd_135 : Cond.instanceMethod Lib.objectInit ∈ tw_l := tb_1 (List.mem_of_getElem? (i := 23) rfl) rfl
theorem wd_136 : Cond.code Lib.objectInit ⟨#[0xb1]⟩ 1 (Option.none : Option FieldType) ∈ tw_l := tb_1 (List.mem_of_getElem? (i := 24) rfl) rfl
theorem wd_137 : Cond.classLink RX11 9 RX7 ∈ tw_l := tb_1 (List.mem_of_getElem? (i := 25) rfl) rfl
theorem wd_138 : Cond.arrayOver (FieldType.object "KnotTable$Picture") ∈ tw_l := tb_1 (List.mem_of_getElem? (i := 26) rfl) rfl
theorem wd_139 : Cond.classLink RX11 15 RX5 ∈ tw_l := tb_1 (List.mem_of_getElem? (i := 27) rfl) rfl
theorem wd_140 : Cond.arrayOver (FieldType.object "KnotTable$Move") ∈ tw_l := tb_1 (List.mem_of_getElem? (i := 28) rfl) rfl
theorem wd_141 : Cond.classLink RX11 21 RX6 ∈ tw_l := tb_1 (List.mem_of_getElem? (i := 29) rfl) rfl
theorem wd_142 : Cond.instantiable RX6 2 ∈ tw_l := tb_1 (List.mem_of_getElem? (i := 30) rfl) rfl
theorem wd_143 : Cond.methodLink RX11 23 yX6_init ∈ tw_l := tb_1 (List.mem_of_getElem? (i := 31) rfl) rfl
theorem wd_144 : Cond.instanceMethod yX6_init ∈ tw_l := tb_1 (List.mem_of_getElem? (i := 32) rfl) rfl
theorem wd_145 : Cond.code yX6_init cX6_init 2 (Option.none : Option FieldType) ∈ tw_l := tb_1 (List.mem_of_getElem? (i := 33) rfl) rfl
theorem wd_146 : Cond.methodLink RX6 1 Lib.objectInit ∈ tw_l := tb_1 (List.mem_of_getElem? (i := 34) rfl) rfl
theorem wd_147 : Cond.methodLink RX6 7 yJ9_max_7cf53 ∈ tw_l := tb_1 (List.mem_of_getElem? (i := 35) rfl) rfl
theorem wd_148 : Cond.static yJ9_max_7cf53 ∈ tw_l := tb_1 (List.mem_of_getElem? (i := 36) rfl) rfl
theorem wd_149 : Cond.code yJ9_max_7cf53 cJ9_max_7cf53 2 (some FieldType.int) ∈ tw_l := tb_1 (List.mem_of_getElem? (i := 37) rfl) rfl
theorem wd_150 : Cond.fieldLink RX6 13 RX6 "numbers" "[I" ∈ tw_l := tb_1 (List.mem_of_getElem? (i := 38) rfl) rfl
theorem wd_151 : Cond.fieldLinkNest RX7 89 RX6 "numbers" "[I" RX11 ∈ tw_l := tb_1 (List.mem_of_getElem? (i := 39) rfl) rfl
theorem wd_152 : Cond.fieldLinkNest RX11 301 RX6 "numbers" "[I" RX11 ∈ tw_l := tb_1 (List.mem_of_getElem? (i := 40) rfl) rfl
theorem wd_153 : Cond.fieldLink RX6 19 RX6 "length" "I" ∈ tw_l := tb_1 (List.mem_of_getElem? (i := 41) rfl) rfl
theorem wd_154 : Cond.fieldLinkNest RX7 94 RX6 "length" "I" RX11 ∈ tw_l := tb_1 (List.mem_of_getElem? (i := 42) rfl) rfl
theorem wd_155 : Cond.fieldLinkNest RX11 292 RX6 "length" "I" RX11 ∈ tw_l := tb_1 (List.mem_of_getElem? (i := 43) rfl) rfl
theorem wd_161 : Cond.arrayClass (FieldType.int) ∈ tw_l := tb_1 (List.mem_of_getElem? (i := 49) rfl) rfl
theorem wd_162 : Cond.classLink RX11 33 RX4 ∈ tw_l := tb_1 (List.mem_of_getElem? (i := 50) rfl) rfl
theorem wd_163 : Cond.instantiable RX4 18 ∈ tw_l := tb_1 (List.mem_of_getElem? (i := 51) rfl) rfl
theorem wd_164 : Cond.methodLinkNest RX11 35 yX4_init RX11 ∈ tw_l := tb_1 (List.mem_of_getElem? (i := 52) rfl) rfl
theorem wd_165 : Cond.instanceMethod yX4_init ∈ tw_l := tb_1 (List.mem_of_getElem? (i := 53) rfl) rfl
theorem wd_166 : Cond.code yX4_init cX4_init 1 (Option.none : Option FieldType) ∈ tw_l := tb_1 (List.mem_of_getElem? (i := 54) rfl) rfl
theorem wd_167 : Cond.methodLink RX4 3 Lib.objectInit ∈ tw_l := tb_1 (List.mem_of_getElem? (i := 55) rfl) rfl
theorem wd_168 : Cond.fieldLink RX4 9 RX4 "mate" "[I" ∈ tw_l := tb_1 (List.mem_of_getElem? (i := 56) rfl) rfl
theorem wd_169 : Cond.fieldLinkNest RX10 51 RX4 "mate" "[I" RX11 ∈ tw_l := tb_1 (List.mem_of_getElem? (i := 57) rfl) rfl
theorem wd_170 : Cond.fieldLinkNest RX1 58 RX4 "mate" "[I" RX11 ∈ tw_l := tb_1 (List.mem_of_getElem? (i := 58) rfl) rfl
theorem wd_171 : Cond.fieldLinkNest RX9 53 RX4 "mate" "[I" RX11 ∈ tw_l := tb_1 (List.mem_of_getElem? (i := 59) rfl) rfl
theorem wd_172 : Cond.fieldLinkNest RX5 104 RX4 "mate" "[I" RX11 ∈ tw_l := tb_1 (List.mem_of_getElem? (i := 60) rfl) rfl
theorem wd_173 : Cond.fieldLinkNest RX7 61 RX4 "mate" "[I" RX11 ∈ tw_l := tb_1 (List.mem_of_getElem? (i := 61) rfl) rfl
theorem wd_174 : Cond.fieldLinkNest RX11 222 RX4 "mate" "[I" RX11 ∈ tw_l := tb_1 (List.mem_of_getElem? (i := 62) rfl) rfl
theorem wd_175 : Cond.fieldLink RX4 15 RX4 "regionOf" "[I" ∈ tw_l := tb_1 (List.mem_of_getElem? (i := 63) rfl) rfl
theorem wd_176 : Cond.fieldLinkNest RX5 110 RX4 "regionOf" "[I" RX11 ∈ tw_l := tb_1 (List.mem_of_getElem? (i := 64) rfl) rfl
theorem wd_177 : Cond.fieldLink RX4 18 RX4 "regionLength" "[I" ∈ tw_l := tb_1 (List.mem_of_getElem? (i := 65) rfl) rfl
theorem wd_178 : Cond.fieldLink RX4 21 RX4 "pieceAt" "[I" ∈ tw_l := tb_1 (List.mem_of_getElem? (i := 66) rfl) rfl
theorem wd_179 : Cond.fieldLinkNest RX11 234 RX4 "pieceAt" "[I" RX11 ∈ tw_l := tb_1 (List.mem_of_getElem? (i := 67) rfl) rfl
theorem wd_180 : Cond.fieldLink RX4 24 RX4 "outward" "[I" ∈ tw_l := tb_1 (List.mem_of_getElem? (i := 68) rfl) rfl
theorem wd_181 : Cond.fieldLink RX4 27 RX4 "starts" "[I" ∈ tw_l := tb_1 (List.mem_of_getElem? (i := 69) rfl) rfl
theorem wd_182 : Cond.fieldLink RX4 30 RX4 "signs" "[I" ∈ tw_l := tb_1 (List.mem_of_getElem? (i := 70) rfl) rfl
theorem wd_183 : Cond.fieldLinkNest RX11 231 RX4 "signs" "[I" RX11 ∈ tw_l := tb_1 (List.mem_of_getElem? (i := 71) rfl) rfl
theorem wd_184 : Cond.fieldLink RX4 33 RX4 "partOf" "[I" ∈ tw_l := tb_1 (List.mem_of_getElem? (i := 72) rfl) rfl
theorem wd_185 : Cond.fieldLink RX4 36 RX4 "queue" "[I" ∈ tw_l := tb_1 (List.mem_of_getElem? (i := 73) rfl) rfl
theorem wd_186 : Cond.fieldLink RX4 39 RX4 "arcEnds" "[I" ∈ tw_l := tb_1 (List.mem_of_getElem? (i := 74) rfl) rfl
theorem wd_187 : Cond.fieldLink RX4 42 RX4 "size" "I" ∈ tw_l := tb_1 (List.mem_of_getElem? (i := 75) rfl) rfl
theorem wd_188 : Cond.fieldLinkNest RX1 24 RX4 "size" "I" RX11 ∈ tw_l := tb_1 (List.mem_of_getElem? (i := 76) rfl) rfl
theorem wd_189 : Cond.fieldLinkNest RX9 34 RX4 "size" "I" RX11 ∈ tw_l := tb_1 (List.mem_of_getElem? (i := 77) rfl) rfl
theorem wd_190 : Cond.fieldLinkNest RX11 213 RX4 "size" "I" RX11 ∈ tw_l := tb_1 (List.mem_of_getElem? (i := 78) rfl) rfl
theorem wd_191 : Cond.fieldLinkNest RX5 142 RX4 "size" "I" RX11 ∈ tw_l := tb_1 (List.mem_of_getElem? (i := 79) rfl) rfl
theorem wd_192 : Cond.fieldLinkNest RX1 48 RX4 "loops" "I" RX11 ∈ tw_l := tb_1 (List.mem_of_getElem? (i := 80) rfl) rfl
theorem wd_193 : Cond.fieldLink RX4 49 RX4 "loops" "I" ∈ tw_l := tb_1 (List.mem_of_getElem? (i := 81) rfl) rfl
theorem wd_194 : Cond.fieldLinkNest RX9 44 RX4 "loops" "I" RX11 ∈ tw_l := tb_1 (List.mem_of_getElem? (i := 82) rfl) rfl
theorem wd_195 : Cond.fieldLinkNest RX11 214 RX4 "loops" "I" RX11 ∈ tw_l := tb_1 (List.mem_of_getElem? (i := 83) rfl) rfl
theorem wd_196 : Cond.fieldLink RX4 75 RX4 "regions" "I" ∈ tw_l := tb_1 (List.mem_of_getElem? (i := 84) rfl) rfl
theorem wd_197 : Cond.fieldLinkNest RX11 192 RX4 "regions" "I" RX11 ∈ tw_l := tb_1 (List.mem_of_getElem? (i := 85) rfl) rfl
theorem wd_198 : Cond.fieldLink RX4 78 RX4 "parts" "I" ∈ tw_l := tb_1 (List.mem_of_getElem? (i := 86) rfl) rfl
theorem wd_199 : Cond.fieldLinkNest RX11 195 RX4 "parts" "I" RX11 ∈ tw_l := tb_1 (List.mem_of_getElem? (i := 87) rfl) rfl
theorem wd_200 : Cond.fieldLink RX4 46 RX4 "pieces" "I" ∈ tw_l := tb_1 (List.mem_of_getElem? (i := 88) rfl) rfl
theorem wd_201 : Cond.fieldLinkNest RX9 82 RX4 "writhe" "I" RX11 ∈ tw_l := tb_1 (List.mem_of_getElem? (i := 89) rfl) rfl
theorem wd_202 : Cond.fieldLink RX4 117 RX4 "writhe" "I" ∈ tw_l := tb_1 (List.mem_of_getElem? (i := 90) rfl) rfl
theorem wd_203 : Cond.fieldLinkNest RX11 198 RX4 "writhe" "I" RX11 ∈ tw_l := tb_1 (List.mem_of_getElem? (i := 91) rfl) rfl
theorem wd_204 : Cond.fieldLinkNest RX11 107 RX4 "reason" "I" RX11 ∈ tw_l := tb_1 (List.mem_of_getElem? (i := 92) rfl) rfl
theorem wd_205 : Cond.fieldLink RX4 56 RX4 "reason" "I" ∈ tw_l := tb_1 (List.mem_of_getElem? (i := 93) rfl) rfl
theorem wd_206 : Cond.fieldLink RX4 59 RX4 "place" "I" ∈ tw_l := tb_1 (List.mem_of_getElem? (i := 94) rfl) rfl
theorem wd_207 : Cond.fieldLinkNest RX11 181 RX4 "place" "I" RX11 ∈ tw_l := tb_1 (List.mem_of_getElem? (i := 95) rfl) rfl
theorem wd_245 : Cond.instantiable RX7 7 ∈ tw_l := tb_1 (List.mem_of_getElem? (i := 133) rfl) rfl
theorem wd_246 : Cond.methodLink RX11 43 yX7_init ∈ tw_l := tb_1 (List.mem_of_getElem? (i := 134) rfl) rfl
theorem wd_247 : Cond.instanceMethod yX7_init ∈ tw_l := tb_1 (List.mem_of_getElem? (i := 135) rfl) rfl
theorem wd_248 : Cond.code yX7_init cX7_init 1 (Option.none : Option FieldType) ∈ tw_l := tb_1 (List.mem_of_getElem? (i := 136) rfl) rfl
theorem wd_249 : Cond.methodLink RX7 3 Lib.objectInit ∈ tw_l := tb_1 (List.mem_of_getElem? (i := 137) rfl) rfl
theorem wd_250 : Cond.methodLink RX7 18 yJ7_fill_53178 ∈ tw_l := tb_1 (List.mem_of_getElem? (i := 138) rfl) rfl
theorem wd_251 : Cond.static yJ7_fill_53178 ∈ tw_l := tb_1 (List.mem_of_getElem? (i := 139) rfl) rfl
theorem wd_252 : Cond.code yJ7_fill_53178 cJ7_fill_53178 4 (Option.none : Option FieldType) ∈ tw_l := tb_1 (List.mem_of_getElem? (i := 140) rfl) rfl
theorem wd_253 : Cond.fieldLink RX7 9 RX7 "lengths" "[I" ∈ tw_l := tb_1 (List.mem_of_getElem? (i := 141) rfl) rfl
theorem wd_254 : Cond.fieldLinkNest RX4 87 RX7 "lengths" "[I" RX11 ∈ tw_l := tb_1 (List.mem_of_getElem? (i := 142) rfl) rfl
theorem wd_255 : Cond.fieldLinkNest RX11 158 RX7 "lengths" "[I" RX11 ∈ tw_l := tb_1 (List.mem_of_getElem? (i := 143) rfl) rfl
theorem wd_256 : Cond.fieldLink RX7 15 RX7 "arcs" "[I" ∈ tw_l := tb_1 (List.mem_of_getElem? (i := 144) rfl) rfl
theorem wd_257 : Cond.fieldLinkNest RX10 44 RX7 "arcs" "[I" RX11 ∈ tw_l := tb_1 (List.mem_of_getElem? (i := 145) rfl) rfl
theorem wd_258 : Cond.fieldLinkNest RX4 94 RX7 "arcs" "[I" RX11 ∈ tw_l := tb_1 (List.mem_of_getElem? (i := 146) rfl) rfl
theorem wd_259 : Cond.fieldLinkNest RX5 101 RX7 "arcs" "[I" RX11 ∈ tw_l := tb_1 (List.mem_of_getElem? (i := 147) rfl) rfl
theorem wd_260 : Cond.fieldLinkNest RX11 165 RX7 "arcs" "[I" RX11 ∈ tw_l := tb_1 (List.mem_of_getElem? (i := 148) rfl) rfl
theorem wd_261 : Cond.fieldLinkNest RX10 18 RX7 "size" "I" RX11 ∈ tw_l := tb_1 (List.mem_of_getElem? (i := 149) rfl) rfl
theorem wd_262 : Cond.fieldLink RX7 24 RX7 "size" "I" ∈ tw_l := tb_1 (List.mem_of_getElem? (i := 150) rfl) rfl
theorem wd_263 : Cond.fieldLinkNest RX8 89 RX7 "size" "I" RX11 ∈ tw_l := tb_1 (List.mem_of_getElem? (i := 151) rfl) rfl
theorem wd_264 : Cond.fieldLinkNest RX4 52 RX7 "size" "I" RX11 ∈ tw_l := tb_1 (List.mem_of_getElem? (i := 152) rfl) rfl
theorem wd_265 : Cond.fieldLinkNest RX11 141 RX7 "size" "I" RX11 ∈ tw_l := tb_1 (List.mem_of_getElem? (i := 153) rfl) rfl
theorem wd_266 : Cond.fieldLinkNest RX5 90 RX7 "size" "I" RX11 ∈ tw_l := tb_1 (List.mem_of_getElem? (i := 154) rfl) rfl
theorem wd_267 : Cond.fieldLinkNest RX10 31 RX7 "loops" "I" RX11 ∈ tw_l := tb_1 (List.mem_of_getElem? (i := 155) rfl) rfl
theorem wd_268 : Cond.fieldLink RX7 28 RX7 "loops" "I" ∈ tw_l := tb_1 (List.mem_of_getElem? (i := 156) rfl) rfl
theorem wd_269 : Cond.fieldLinkNest RX4 55 RX7 "loops" "I" RX11 ∈ tw_l := tb_1 (List.mem_of_getElem? (i := 157) rfl) rfl
theorem wd_270 : Cond.fieldLinkNest RX5 80 RX7 "loops" "I" RX11 ∈ tw_l := tb_1 (List.mem_of_getElem? (i := 158) rfl) rfl
theorem wd_271 : Cond.fieldLinkNest RX11 178 RX7 "loops" "I" RX11 ∈ tw_l := tb_1 (List.mem_of_getElem? (i := 159) rfl) rfl
theorem wd_272 : Cond.fieldLink RX7 70 RX7 "past" "[I" ∈ tw_l := tb_1 (List.mem_of_getElem? (i := 160) rfl) rfl
theorem wd_273 : Cond.fieldLink RX7 76 RX7 "pastCount" "I" ∈ tw_l := tb_1 (List.mem_of_getElem? (i := 161) rfl) rfl
theorem wd_274 : Cond.fieldLinkNest RX11 228 RX7 "pastCount" "I" RX11 ∈ tw_l := tb_1 (List.mem_of_getElem? (i := 162) rfl) rfl
theorem wd_275 : Cond.fieldLink RX7 73 RX7 "pastNext" "I" ∈ tw_l := tb_1 (List.mem_of_getElem? (i := 163) rfl) rfl
theorem wd_291 : Cond.classLink RX11 48 RX9 ∈ tw_l := tb_1 (List.mem_of_getElem? (i := 179) rfl) rfl
theorem wd_292 : Cond.instantiable RX9 4 ∈ tw_l := tb_1 (List.mem_of_getElem? (i := 180) rfl) rfl
theorem wd_293 : Cond.methodLinkNest RX11 50 yX9_init RX11 ∈ tw_l := tb_1 (List.mem_of_getElem? (i := 181) rfl) rfl
theorem wd_294 : Cond.instanceMethod yX9_init ∈ tw_l := tb_1 (List.mem_of_getElem? (i := 182) rfl) rfl
theorem wd_295 : Cond.code yX9_init cX9_init 1 (Option.none : Option FieldType) ∈ tw_l := tb_1 (List.mem_of_getElem? (i := 183) rfl) rfl
theorem wd_296 : Cond.methodLink RX9 3 Lib.objectInit ∈ tw_l := tb_1 (List.mem_of_getElem? (i := 184) rfl) rfl
theorem wd_297 : Cond.classLink RX9 15 "[[I" ∈ tw_l := tb_1 (List.mem_of_getElem? (i := 185) rfl) rfl
theorem wd_298 : Cond.arrayOver (FieldType.array FieldType.int) ∈ tw_l := tb_1 (List.mem_of_getElem? (i := 186) rfl) rfl
theorem wd_299 : Cond.fieldLink RX9 9 RX9 "far" "[I" ∈ tw_l := tb_1 (List.mem_of_getElem? (i := 187) rfl) rfl
theorem wd_300 : Cond.fieldLink RX9 17 RX9 "tally" "[[I" ∈ tw_l := tb_1 (List.mem_of_getElem? (i := 188) rfl) rfl
theorem wd_301 : Cond.fieldLink RX9 39 RX9 "size" "I" ∈ tw_l := tb_1 (List.mem_of_getElem? (i := 189) rfl) rfl
theorem wd_302 : Cond.fieldLink RX9 29 RX9 "spent" "I" ∈ tw_l := tb_1 (List.mem_of_getElem? (i := 190) rfl) rfl
theorem wd_303 : Cond.fieldLinkNest RX11 432 RX9 "spent" "I" RX11 ∈ tw_l := tb_1 (List.mem_of_getElem? (i := 191) rfl) rfl
theorem wd_313 : Cond.classLink RX11 55 RX2 ∈ tw_l := tb_1 (List.mem_of_getElem? (i := 201) rfl) rfl
theorem wd_314 : Cond.instantiable RX2 3 ∈ tw_l := tb_1 (List.mem_of_getElem? (i := 202) rfl) rfl
theorem wd_315 : Cond.methodLinkNest RX11 57 yX2_init RX11 ∈ tw_l := tb_1 (List.mem_of_getElem? (i := 203) rfl) rfl
theorem wd_316 : Cond.instanceMethod yX2_init ∈ tw_l := tb_1 (List.mem_of_getElem? (i := 204) rfl) rfl
theorem wd_317 : Cond.code yX2_init cX2_init 1 (Option.none : Option FieldType) ∈ tw_l := tb_1 (List.mem_of_getElem? (i := 205) rfl) rfl
theorem wd_318 : Cond.methodLink RX2 3 Lib.objectInit ∈ tw_l := tb_1 (List.mem_of_getElem? (i := 206) rfl) rfl
theorem wd_319 : Cond.fieldLink RX2 9 RX2 "numbers" "[J" ∈ tw_l := tb_1 (List.mem_of_getElem? (i := 207) rfl) rfl
theorem wd_320 : Cond.fieldLink RX2 13 RX2 "spare" "[J" ∈ tw_l := tb_1 (List.mem_of_getElem? (i := 208) rfl) rfl
theorem wd_321 : Cond.fieldLink RX2 22 RX2 "made" "Z" ∈ tw_l := tb_1 (List.mem_of_getElem? (i := 209) rfl) rfl
theorem wd_322 : Cond.fieldLinkNest RX11 274 RX2 "made" "Z" RX11 ∈ tw_l := tb_1 (List.mem_of_getElem? (i := 210) rfl) rfl
theorem wd_330 : Cond.arrayClass (FieldType.long) ∈ tw_l := tb_1 (List.mem_of_getElem? (i := 218) rfl) rfl
theorem wd_331 : Cond.classLink RX11 68 RX1 ∈ tw_l := tb_1 (List.mem_of_getElem? (i := 219) rfl) rfl
theorem wd_332 : Cond.instantiable RX1 3 ∈ tw_l := tb_1 (List.mem_of_getElem? (i := 220) rfl) rfl
theorem wd_333 : Cond.methodLinkNest RX11 70 yX1_init RX11 ∈ tw_l := tb_1 (List.mem_of_getElem? (i := 221) rfl) rfl
theorem wd_334 : Cond.instanceMethod yX1_init ∈ tw_l := tb_1 (List.mem_of_getElem? (i := 222) rfl) rfl
theorem wd_335 : Cond.code yX1_init cX1_init 1 (Option.none : Option FieldType) ∈ tw_l := tb_1 (List.mem_of_getElem? (i := 223) rfl) rfl
theorem wd_336 : Cond.methodLink RX1 3 Lib.objectInit ∈ tw_l := tb_1 (List.mem_of_getElem? (i := 224) rfl) rfl
theorem wd_337 : Cond.classLink RX1 15 "[[I" ∈ tw_l := tb_1 (List.mem_of_getElem? (i := 225) rfl) rfl
theorem wd_338 : Cond.fieldLink RX1 9 RX1 "strandOf" "[I" ∈ tw_l := tb_1 (List.mem_of_getElem? (i := 226) rfl) rfl
theorem wd_339 : Cond.fieldLink RX1 17 RX1 "rows" "[[I" ∈ tw_l := tb_1 (List.mem_of_getElem? (i := 227) rfl) rfl
theorem wd_340 : Cond.fieldLink RX1 42 RX1 "strands" "I" ∈ tw_l := tb_1 (List.mem_of_getElem? (i := 228) rfl) rfl
theorem wd_348 : Cond.classLink RX11 75 RX8 ∈ tw_l := tb_1 (List.mem_of_getElem? (i := 236) rfl) rfl
theorem wd_349 : Cond.instantiable RX8 16 ∈ tw_l := tb_1 (List.mem_of_getElem? (i := 237) rfl) rfl
theorem wd_350 : Cond.methodLinkNest RX11 77 yX8_init RX11 ∈ tw_l := tb_1 (List.mem_of_getElem? (i := 238) rfl) rfl
theorem wd_351 : Cond.instanceMethod yX8_init ∈ tw_l := tb_1 (List.mem_of_getElem? (i := 239) rfl) rfl
theorem wd_352 : Cond.code yX8_init cX8_init 1 (Option.none : Option FieldType) ∈ tw_l := tb_2 (List.mem_of_getElem? (i := 0) rfl) rfl
theorem wd_353 : Cond.methodLink RX8 5 Lib.objectInit ∈ tw_l := tb_2 (List.mem_of_getElem? (i := 1) rfl) rfl
theorem wd_354 : Cond.classLink RX8 1 RX10 ∈ tw_l := tb_2 (List.mem_of_getElem? (i := 2) rfl) rfl
theorem wd_355 : Cond.arrayOver (FieldType.object "KnotTable$State") ∈ tw_l := tb_2 (List.mem_of_getElem? (i := 3) rfl) rfl
theorem wd_356 : Cond.instantiable RX10 7 ∈ tw_l := tb_2 (List.mem_of_getElem? (i := 4) rfl) rfl
theorem wd_357 : Cond.methodLinkNest RX8 17 yX10_init RX11 ∈ tw_l := tb_2 (List.mem_of_getElem? (i := 5) rfl) rfl
theorem wd_358 : Cond.instanceMethod yX10_init ∈ tw_l := tb_2 (List.mem_of_getElem? (i := 6) rfl) rfl
theorem wd_359 : Cond.code yX10_init cX10_init 1 (Option.none : Option FieldType) ∈ tw_l := tb_2 (List.mem_of_getElem? (i := 7) rfl) rfl
theorem wd_360 : Cond.methodLink RX10 3 Lib.objectInit ∈ tw_l := tb_2 (List.mem_of_getElem? (i := 8) rfl) rfl
theorem wd_361 : Cond.fieldLink RX10 11 RX10 "arcs" "[I" ∈ tw_l := tb_2 (List.mem_of_getElem? (i := 9) rfl) rfl
theorem wd_362 : Cond.fieldLink RX10 15 RX10 "mates" "[I" ∈ tw_l := tb_2 (List.mem_of_getElem? (i := 10) rfl) rfl
theorem wd_363 : Cond.fieldLinkNest RX8 106 RX10 "mates" "[I" RX11 ∈ tw_l := tb_2 (List.mem_of_getElem? (i := 11) rfl) rfl
theorem wd_364 : Cond.fieldLink RX10 30 RX10 "size" "I" ∈ tw_l := tb_2 (List.mem_of_getElem? (i := 12) rfl) rfl
theorem wd_365 : Cond.fieldLinkNest RX8 110 RX10 "size" "I" RX11 ∈ tw_l := tb_2 (List.mem_of_getElem? (i := 13) rfl) rfl
theorem wd_366 : Cond.fieldLinkNest RX11 380 RX10 "size" "I" RX11 ∈ tw_l := tb_2 (List.mem_of_getElem? (i := 14) rfl) rfl
theorem wd_367 : Cond.fieldLink RX10 34 RX10 "loops" "I" ∈ tw_l := tb_2 (List.mem_of_getElem? (i := 15) rfl) rfl
theorem wd_368 : Cond.fieldLink RX10 41 RX10 "mark" "I" ∈ tw_l := tb_2 (List.mem_of_getElem? (i := 16) rfl) rfl
theorem wd_369 : Cond.fieldLinkNest RX8 141 RX10 "parent" "I" RX11 ∈ tw_l := tb_2 (List.mem_of_getElem? (i := 17) rfl) rfl
theorem wd_370 : Cond.fieldLinkNest RX8 144 RX10 "lead" "I" RX11 ∈ tw_l := tb_2 (List.mem_of_getElem? (i := 18) rfl) rfl
theorem wd_386 : Cond.classLink RX8 22 RX3 ∈ tw_l := tb_2 (List.mem_of_getElem? (i := 34) rfl) rfl
theorem wd_387 : Cond.instantiable RX3 4 ∈ tw_l := tb_2 (List.mem_of_getElem? (i := 35) rfl) rfl
theorem wd_388 : Cond.methodLinkNest RX8 24 yX3_init RX11 ∈ tw_l := tb_2 (List.mem_of_getElem? (i := 36) rfl) rfl
theorem wd_389 : Cond.instanceMethod yX3_init ∈ tw_l := tb_2 (List.mem_of_getElem? (i := 37) rfl) rfl
theorem wd_390 : Cond.code yX3_init cX3_init 1 (Option.none : Option FieldType) ∈ tw_l := tb_2 (List.mem_of_getElem? (i := 38) rfl) rfl
theorem wd_391 : Cond.methodLink RX3 3 Lib.objectInit ∈ tw_l := tb_2 (List.mem_of_getElem? (i := 39) rfl) rfl
theorem wd_392 : Cond.fieldLink RX3 9 RX3 "image" "[I" ∈ tw_l := tb_2 (List.mem_of_getElem? (i := 40) rfl) rfl
theorem wd_393 : Cond.fieldLink RX3 15 RX3 "taken" "[I" ∈ tw_l := tb_2 (List.mem_of_getElem? (i := 41) rfl) rfl
theorem wd_394 : Cond.fieldLink RX3 18 RX3 "queue" "[I" ∈ tw_l := tb_2 (List.mem_of_getElem? (i := 42) rfl) rfl
theorem wd_395 : Cond.fieldLink RX3 31 RX3 "known" "I" ∈ tw_l := tb_2 (List.mem_of_getElem? (i := 43) rfl) rfl
theorem wd_405 : Cond.classLink RX8 29 RX6 ∈ tw_l := tb_2 (List.mem_of_getElem? (i := 53) rfl) rfl
theorem wd_406 : Cond.methodLink RX8 31 yX6_init ∈ tw_l := tb_2 (List.mem_of_getElem? (i := 54) rfl) rfl
theorem wd_407 : Cond.classLink RX8 38 RX7 ∈ tw_l := tb_2 (List.mem_of_getElem? (i := 55) rfl) rfl
theorem wd_408 : Cond.methodLink RX8 40 yX7_init ∈ tw_l := tb_2 (List.mem_of_getElem? (i := 56) rfl) rfl
theorem wd_409 : Cond.classLink RX8 48 RX4 ∈ tw_l := tb_2 (List.mem_of_getElem? (i := 57) rfl) rfl
theorem wd_410 : Cond.methodLinkNest RX8 50 yX4_init RX11 ∈ tw_l := tb_2 (List.mem_of_getElem? (i := 58) rfl) rfl
theorem wd_411 : Cond.fieldLink RX8 11 RX8 "states" "[LKnotTable$State;" ∈ tw_l := tb_2 (List.mem_of_getElem? (i := 59) rfl) rfl
theorem wd_412 : Cond.fieldLinkNest RX11 373 RX8 "states" "[LKnotTable$State;" RX11 ∈ tw_l := tb_2 (List.mem_of_getElem? (i := 60) rfl) rfl
theorem wd_413 : Cond.fieldLink RX8 18 RX8 "target" "LKnotTable$State;" ∈ tw_l := tb_2 (List.mem_of_getElem? (i := 61) rfl) rfl
theorem wd_414 : Cond.fieldLink RX8 25 RX8 "likeness" "LKnotTable$Likeness;" ∈ tw_l := tb_2 (List.mem_of_getElem? (i := 62) rfl) rfl
theorem wd_415 : Cond.fieldLinkNest RX11 345 RX8 "likeness" "LKnotTable$Likeness;" RX11 ∈ tw_l := tb_2 (List.mem_of_getElem? (i := 63) rfl) rfl
theorem wd_416 : Cond.fieldLink RX8 34 RX8 "ways" "LKnotTable$Numbers;" ∈ tw_l := tb_2 (List.mem_of_getElem? (i := 64) rfl) rfl
theorem wd_417 : Cond.fieldLinkNest RX11 408 RX8 "ways" "LKnotTable$Numbers;" RX11 ∈ tw_l := tb_2 (List.mem_of_getElem? (i := 65) rfl) rfl
theorem wd_418 : Cond.fieldLink RX8 41 RX8 "base" "LKnotTable$Picture;" ∈ tw_l := tb_2 (List.mem_of_getElem? (i := 66) rfl) rfl
theorem wd_419 : Cond.fieldLink RX8 45 RX8 "next" "LKnotTable$Picture;" ∈ tw_l := tb_2 (List.mem_of_getElem? (i := 67) rfl) rfl
theorem wd_420 : Cond.fieldLink RX8 51 RX8 "baseLook" "LKnotTable$Look;" ∈ tw_l := tb_2 (List.mem_of_getElem? (i := 68) rfl) rfl
theorem wd_421 : Cond.fieldLink RX8 55 RX8 "nextLook" "LKnotTable$Look;" ∈ tw_l := tb_2 (List.mem_of_getElem? (i := 69) rfl) rfl
theorem wd_422 : Cond.fieldLink RX8 58 RX8 "begun" "Z" ∈ tw_l := tb_2 (List.mem_of_getElem? (i := 70) rfl) rfl
theorem wd_423 : Cond.fieldLinkNest RX11 364 RX8 "begun" "Z" RX11 ∈ tw_l := tb_2 (List.mem_of_getElem? (i := 71) rfl) rfl
theorem wd_424 : Cond.fieldLink RX8 62 RX8 "ended" "Z" ∈ tw_l := tb_2 (List.mem_of_getElem? (i := 72) rfl) rfl
theorem wd_425 : Cond.fieldLinkNest RX11 367 RX8 "ended" "Z" RX11 ∈ tw_l := tb_2 (List.mem_of_getElem? (i := 73) rfl) rfl
theorem wd_426 : Cond.fieldLink RX8 65 RX8 "aiming" "Z" ∈ tw_l := tb_2 (List.mem_of_getElem? (i := 74) rfl) rfl
theorem wd_427 : Cond.fieldLink RX8 72 RX8 "count" "I" ∈ tw_l := tb_2 (List.mem_of_getElem? (i := 75) rfl) rfl
theorem wd_428 : Cond.fieldLinkNest RX11 370 RX8 "count" "I" RX11 ∈ tw_l := tb_2 (List.mem_of_getElem? (i := 76) rfl) rfl
theorem wd_429 : Cond.fieldLink RX8 75 RX8 "steps" "I" ∈ tw_l := tb_2 (List.mem_of_getElem? (i := 77) rfl) rfl
theorem wd_430 : Cond.fieldLinkNest RX11 383 RX8 "steps" "I" RX11 ∈ tw_l := tb_2 (List.mem_of_getElem? (i := 78) rfl) rfl
theorem wd_431 : Cond.fieldLink RX8 135 RX8 "current" "I" ∈ tw_l := tb_2 (List.mem_of_getElem? (i := 79) rfl) rfl
theorem wd_432 : Cond.fieldLink RX8 118 RX8 "slot" "I" ∈ tw_l := tb_2 (List.mem_of_getElem? (i := 80) rfl) rfl
theorem wd_433 : Cond.fieldLink RX8 68 RX8 "found" "I" ∈ tw_l := tb_2 (List.mem_of_getElem? (i := 81) rfl) rfl
theorem wd_467 : Cond.classLink RX11 82 RX0 ∈ tw_l := tb_2 (List.mem_of_getElem? (i := 115) rfl) rfl
theorem wd_468 : Cond.instantiable RX0 3 ∈ tw_l := tb_2 (List.mem_of_getElem? (i := 116) rfl) rfl
theorem wd_469 : Cond.methodLinkNest RX11 84 yX0_init RX11 ∈ tw_l := tb_2 (List.mem_of_getElem? (i := 117) rfl) rfl
theorem wd_470 : Cond.instanceMethod yX0_init ∈ tw_l := tb_2 (List.mem_of_getElem? (i := 118) rfl) rfl
theorem wd_471 : Cond.code yX0_init cX0_init 1 (Option.none : Option FieldType) ∈ tw_l := tb_2 (List.mem_of_getElem? (i := 119) rfl) rfl
theorem wd_472 : Cond.methodLink RX0 3 Lib.objectInit ∈ tw_l := tb_2 (List.mem_of_getElem? (i := 120) rfl) rfl
theorem wd_473 : Cond.classLink RX0 15 RX2 ∈ tw_l := tb_2 (List.mem_of_getElem? (i := 121) rfl) rfl
theorem wd_474 : Cond.arrayOver (FieldType.object "KnotTable$Laurent") ∈ tw_l := tb_2 (List.mem_of_getElem? (i := 122) rfl) rfl
theorem wd_475 : Cond.fieldLink RX0 9 RX0 "names" "[J" ∈ tw_l := tb_2 (List.mem_of_getElem? (i := 123) rfl) rfl
theorem wd_476 : Cond.fieldLink RX0 17 RX0 "polynomials" "[LKnotTable$Laurent;" ∈ tw_l := tb_2 (List.mem_of_getElem? (i := 124) rfl) rfl
theorem wd_477 : Cond.fieldLink RX0 21 RX0 "count" "I" ∈ tw_l := tb_2 (List.mem_of_getElem? (i := 125) rfl) rfl
theorem wd_478 : Cond.fieldLinkNest RX11 421 RX0 "count" "I" RX11 ∈ tw_l := tb_2 (List.mem_of_getElem? (i := 126) rfl) rfl
theorem wd_486 : Cond.fieldLink RX11 11 RX11 "pictures" "[LKnotTable$Picture;" ∈ tw_l := tb_2 (List.mem_of_getElem? (i := 134) rfl) rfl
theorem wd_487 : Cond.fieldLink RX11 17 RX11 "moves" "[LKnotTable$Move;" ∈ tw_l := tb_2 (List.mem_of_getElem? (i := 135) rfl) rfl
theorem wd_488 : Cond.fieldLink RX11 26 RX11 "tape" "LKnotTable$Numbers;" ∈ tw_l := tb_2 (List.mem_of_getElem? (i := 136) rfl) rfl
theorem wd_489 : Cond.fieldLink RX11 30 RX11 "bodies" "LKnotTable$Numbers;" ∈ tw_l := tb_2 (List.mem_of_getElem? (i := 137) rfl) rfl
theorem wd_490 : Cond.fieldLink RX11 36 RX11 "look" "LKnotTable$Look;" ∈ tw_l := tb_2 (List.mem_of_getElem? (i := 138) rfl) rfl
theorem wd_491 : Cond.fieldLink RX11 40 RX11 "otherLook" "LKnotTable$Look;" ∈ tw_l := tb_2 (List.mem_of_getElem? (i := 139) rfl) rfl
theorem wd_492 : Cond.fieldLink RX11 44 RX11 "draft" "LKnotTable$Picture;" ∈ tw_l := tb_2 (List.mem_of_getElem? (i := 140) rfl) rfl
theorem wd_493 : Cond.fieldLink RX11 51 RX11 "smoothing" "LKnotTable$Smoothing;" ∈ tw_l := tb_2 (List.mem_of_getElem? (i := 141) rfl) rfl
theorem wd_494 : Cond.fieldLink RX11 58 RX11 "result" "LKnotTable$Laurent;" ∈ tw_l := tb_2 (List.mem_of_getElem? (i := 142) rfl) rfl
theorem wd_495 : Cond.fieldLink RX11 62 RX11 "mine" "LKnotTable$Laurent;" ∈ tw_l := tb_2 (List.mem_of_getElem? (i := 143) rfl) rfl
theorem wd_496 : Cond.fieldLink RX11 65 RX11 "theirs" "LKnotTable$Laurent;" ∈ tw_l := tb_2 (List.mem_of_getElem? (i := 144) rfl) rfl
theorem wd_497 : Cond.fieldLink RX11 71 RX11 "colouring" "LKnotTable$Colouring;" ∈ tw_l := tb_2 (List.mem_of_getElem? (i := 145) rfl) rfl
theorem wd_498 : Cond.fieldLink RX11 78 RX11 "seeker" "LKnotTable$Search;" ∈ tw_l := tb_2 (List.mem_of_getElem? (i := 146) rfl) rfl
theorem wd_499 : Cond.fieldLink RX11 85 RX11 "names" "LKnotTable$Book;" ∈ tw_l := tb_2 (List.mem_of_getElem? (i := 147) rfl) rfl
theorem wd_500 : Cond.fieldLink RX11 89 RX11 "findingCounts" "[I" ∈ tw_l := tb_2 (List.mem_of_getElem? (i := 148) rfl) rfl
theorem wd_501 : Cond.fieldLink RX11 97 RX11 "pictureCount" "I" ∈ tw_l := tb_2 (List.mem_of_getElem? (i := 149) rfl) rfl
theorem wd_502 : Cond.fieldLink RX11 100 RX11 "moveCount" "I" ∈ tw_l := tb_2 (List.mem_of_getElem? (i := 150) rfl) rfl
theorem wd_503 : Cond.fieldLink RX11 93 RX11 "openPlace" "I" ∈ tw_l := tb_2 (List.mem_of_getElem? (i := 151) rfl) rfl
theorem wd_504 : Cond.fieldLink RX11 399 RX11 "partedBy" "I" ∈ tw_l := tb_2 (List.mem_of_getElem? (i := 152) rfl) rfl
theorem wd_505 : Cond.fieldLink RX11 110 RX11 "refusal" "I" ∈ tw_l := tb_2 (List.mem_of_getElem? (i := 153) rfl) rfl
theorem wd_547 : Cond.methodLink RL 13 yX11_picture ∈ tw_l := tb_2 (List.mem_of_getElem? (i := 195) rfl) rfl
theorem wd_548 : Cond.instanceMethod yX11_picture ∈ tw_l := tb_2 (List.mem_of_getElem? (i := 196) rfl) rfl
theorem wd_549 : Cond.selects RX11 yX11_picture yX11_picture ∈ tw_l := tb_2 (List.mem_of_getElem? (i := 197) rfl) rfl
theorem wd_550 : Cond.code yX11_picture cX11_picture 1 (some FieldType.int) ∈ tw_l := tb_2 (List.mem_of_getElem? (i := 198) rfl) rfl
theorem wd_551 : Cond.methodLink RX11 116 yX11_isFull ∈ tw_l := tb_2 (List.mem_of_getElem? (i := 199) rfl) rfl
theorem wd_553 : Cond.instanceMethod yX11_isFull ∈ tw_l := tb_2 (List.mem_of_getElem? (i := 201) rfl) rfl
theorem wd_554 : Cond.code yX11_isFull cX11_isFull 1 (some FieldType.boolean) ∈ tw_l := tb_2 (List.mem_of_getElem? (i := 202) rfl) rfl
theorem wd_555 : Cond.methodLink RX11 120 yX11_refuse ∈ tw_l := tb_2 (List.mem_of_getElem? (i := 203) rfl) rfl
theorem wd_557 : Cond.instanceMethod yX11_refuse ∈ tw_l := tb_2 (List.mem_of_getElem? (i := 205) rfl) rfl
theorem wd_558 : Cond.code yX11_refuse cX11_refuse 3 (some FieldType.int) ∈ tw_l := tb_2 (List.mem_of_getElem? (i := 206) rfl) rfl
theorem wd_559 : Cond.methodLink RX11 124 yX7_empty ∈ tw_l := tb_2 (List.mem_of_getElem? (i := 207) rfl) rfl
theorem wd_560 : Cond.instanceMethod yX7_empty ∈ tw_l := tb_2 (List.mem_of_getElem? (i := 208) rfl) rfl
theorem wd_561 : Cond.selects RX7 yX7_empty yX7_empty ∈ tw_l := tb_2 (List.mem_of_getElem? (i := 209) rfl) rfl
theorem wd_562 : Cond.code yX7_empty cX7_empty 1 (Option.none : Option FieldType) ∈ tw_l := tb_2 (List.mem_of_getElem? (i := 210) rfl) rfl
theorem wd_563 : Cond.methodLink RX11 127 yX11_addLike ∈ tw_l := tb_2 (List.mem_of_getElem? (i := 211) rfl) rfl
theorem wd_565 : Cond.instanceMethod yX11_addLike ∈ tw_l := tb_2 (List.mem_of_getElem? (i := 213) rfl) rfl
theorem wd_566 : Cond.code yX11_addLike cX11_addLike 3 (some FieldType.int) ∈ tw_l := tb_2 (List.mem_of_getElem? (i := 214) rfl) rfl
theorem wd_567 : Cond.methodLink RX11 113 yX7_take ∈ tw_l := tb_2 (List.mem_of_getElem? (i := 215) rfl) rfl
theorem wd_568 : Cond.instanceMethod yX7_take ∈ tw_l := tb_2 (List.mem_of_getElem? (i := 216) rfl) rfl
theorem wd_569 : Cond.selects RX7 yX7_take yX7_take ∈ tw_l := tb_2 (List.mem_of_getElem? (i := 217) rfl) rfl
theorem wd_570 : Cond.code yX7_take cX7_take 2 (Option.none : Option FieldType) ∈ tw_l := tb_2 (List.mem_of_getElem? (i := 218) rfl) rfl
theorem wd_571 : Cond.methodLink RX7 31 arraycopyName ∈ tw_l := tb_2 (List.mem_of_getElem? (i := 219) rfl) rfl
theorem wd_572 : Cond.static arraycopyName ∈ tw_l := tb_2 (List.mem_of_getElem? (i := 220) rfl) rfl
theorem wd_573 : Cond.native arraycopyName ∈ tw_l := tb_2 (List.mem_of_getElem? (i := 221) rfl) rfl
theorem wd_574 : Cond.methodLink RX11 131 yX11_grant ∈ tw_l := tb_2 (List.mem_of_getElem? (i := 222) rfl) rfl
theorem wd_576 : Cond.instanceMethod yX11_grant ∈ tw_l := tb_2 (List.mem_of_getElem? (i := 224) rfl) rfl
theorem wd_577 : Cond.code yX11_grant cX11_grant 2 (some FieldType.int) ∈ tw_l := tb_2 (List.mem_of_getElem? (i := 225) rfl) rfl
theorem wd_578 : Cond.methodLink RL 18 yX11_crossing ∈ tw_l := tb_2 (List.mem_of_getElem? (i := 226) rfl) rfl
theorem wd_579 : Cond.instanceMethod yX11_crossing ∈ tw_l := tb_2 (List.mem_of_getElem? (i := 227) rfl) rfl
theorem wd_580 : Cond.selects RX11 yX11_crossing yX11_crossing ∈ tw_l := tb_2 (List.mem_of_getElem? (i := 228) rfl) rfl
theorem wd_581 : Cond.code yX11_crossing cX11_crossing 7 (some FieldType.int) ∈ tw_l := tb_2 (List.mem_of_getElem? (i := 229) rfl) rfl
theorem wd_582 : Cond.methodLink RX11 134 yX11_hasPicture ∈ tw_l := tb_2 (List.mem_of_getElem? (i := 230) rfl) rfl
theorem wd_584 : Cond.instanceMethod yX11_hasPicture ∈ tw_l := tb_2 (List.mem_of_getElem? (i := 232) rfl) rfl
theorem wd_585 : Cond.code yX11_hasPicture cX11_hasPicture 2 (some FieldType.boolean) ∈ tw_l := tb_2 (List.mem_of_getElem? (i := 233) rfl) rfl
theorem wd_586 : Cond.methodLink RX11 138 yX11_isArc ∈ tw_l := tb_2 (List.mem_of_getElem? (i := 234) rfl) rfl
theorem wd_587 : Cond.static yX11_isArc ∈ tw_l := tb_2 (List.mem_of_getElem? (i := 235) rfl) rfl
theorem wd_588 : Cond.code yX11_isArc cX11_isArc 1 (some FieldType.boolean) ∈ tw_l := tb_2 (List.mem_of_getElem? (i := 236) rfl) rfl
theorem wd_589 : Cond.methodLink RX11 144 yX7_forget ∈ tw_l := tb_2 (List.mem_of_getElem? (i := 237) rfl) rfl
theorem wd_590 : Cond.instanceMethod yX7_forget ∈ tw_l := tb_2 (List.mem_of_getElem? (i := 238) rfl) rfl
theorem wd_591 : Cond.selects RX7 yX7_forget yX7_forget ∈ tw_l := tb_2 (List.mem_of_getElem? (i := 239) rfl) rfl
theorem wd_592 : Cond.code yX7_forget cX7_forget 1 (Option.none : Option FieldType) ∈ tw_l := tb_3 (List.mem_of_getElem? (i := 0) rfl) rfl
theorem wd_593 : Cond.methodLink RX11 147 yX7_add ∈ tw_l := tb_3 (List.mem_of_getElem? (i := 1) rfl) rfl
theorem wd_594 : Cond.instanceMethod yX7_add ∈ tw_l := tb_3 (List.mem_of_getElem? (i := 2) rfl) rfl
theorem wd_595 : Cond.selects RX7 yX7_add yX7_add ∈ tw_l := tb_3 (List.mem_of_getElem? (i := 3) rfl) rfl
theorem wd_596 : Cond.code yX7_add cX7_add 5 (Option.none : Option FieldType) ∈ tw_l := tb_3 (List.mem_of_getElem? (i := 4) rfl) rfl
theorem wd_597 : Cond.methodLink RL 23 yX11_row ∈ tw_l := tb_3 (List.mem_of_getElem? (i := 5) rfl) rfl
theorem wd_598 : Cond.instanceMethod yX11_row ∈ tw_l := tb_3 (List.mem_of_getElem? (i := 6) rfl) rfl
theorem wd_599 : Cond.selects RX11 yX11_row yX11_row ∈ tw_l := tb_3 (List.mem_of_getElem? (i := 7) rfl) rfl
theorem wd_600 : Cond.code yX11_row cX11_row 5 (some FieldType.int) ∈ tw_l := tb_3 (List.mem_of_getElem? (i := 8) rfl) rfl
theorem wd_601 : Cond.methodLink RX11 151 yX7_hasCrossing ∈ tw_l := tb_3 (List.mem_of_getElem? (i := 9) rfl) rfl
theorem wd_602 : Cond.instanceMethod yX7_hasCrossing ∈ tw_l := tb_3 (List.mem_of_getElem? (i := 10) rfl) rfl
theorem wd_603 : Cond.selects RX7 yX7_hasCrossing yX7_hasCrossing ∈ tw_l := tb_3 (List.mem_of_getElem? (i := 11) rfl) rfl
theorem wd_604 : Cond.code yX7_hasCrossing cX7_hasCrossing 2 (some FieldType.boolean) ∈ tw_l := tb_3 (List.mem_of_getElem? (i := 12) rfl) rfl
theorem wd_605 : Cond.methodLink RX11 154 yX7_resize ∈ tw_l := tb_3 (List.mem_of_getElem? (i := 13) rfl) rfl
theorem wd_606 : Cond.instanceMethod yX7_resize ∈ tw_l := tb_3 (List.mem_of_getElem? (i := 14) rfl) rfl
theorem wd_607 : Cond.selects RX7 yX7_resize yX7_resize ∈ tw_l := tb_3 (List.mem_of_getElem? (i := 15) rfl) rfl
theorem wd_608 : Cond.code yX7_resize cX7_resize 4 (Option.none : Option FieldType) ∈ tw_l := tb_3 (List.mem_of_getElem? (i := 16) rfl) rfl
theorem wd_609 : Cond.methodLink RX7 37 yJ9_max_7cf53 ∈ tw_l := tb_3 (List.mem_of_getElem? (i := 17) rfl) rfl
theorem wd_610 : Cond.methodLink RL 28 yX11_end ∈ tw_l := tb_3 (List.mem_of_getElem? (i := 18) rfl) rfl
theorem wd_611 : Cond.instanceMethod yX11_end ∈ tw_l := tb_3 (List.mem_of_getElem? (i := 19) rfl) rfl
theorem wd_612 : Cond.selects RX11 yX11_end yX11_end ∈ tw_l := tb_3 (List.mem_of_getElem? (i := 20) rfl) rfl
theorem wd_613 : Cond.code yX11_end cX11_end 5 (some FieldType.int) ∈ tw_l := tb_3 (List.mem_of_getElem? (i := 21) rfl) rfl
theorem wd_614 : Cond.methodLink RX11 161 yX11_whyOutOfReach ∈ tw_l := tb_3 (List.mem_of_getElem? (i := 22) rfl) rfl
theorem wd_615 : Cond.static yX11_whyOutOfReach ∈ tw_l := tb_3 (List.mem_of_getElem? (i := 23) rfl) rfl
theorem wd_616 : Cond.code yX11_whyOutOfReach cX11_whyOutOfReach 3 (some FieldType.int) ∈ tw_l := tb_3 (List.mem_of_getElem? (i := 24) rfl) rfl
theorem wd_617 : Cond.methodLink RL 32 yX11_put ∈ tw_l := tb_3 (List.mem_of_getElem? (i := 25) rfl) rfl
theorem wd_618 : Cond.instanceMethod yX11_put ∈ tw_l := tb_3 (List.mem_of_getElem? (i := 26) rfl) rfl
theorem wd_619 : Cond.selects RX11 yX11_put yX11_put ∈ tw_l := tb_3 (List.mem_of_getElem? (i := 27) rfl) rfl
theorem wd_620 : Cond.code yX11_put cX11_put 6 (some FieldType.int) ∈ tw_l := tb_3 (List.mem_of_getElem? (i := 28) rfl) rfl
theorem wd_621 : Cond.methodLink RL 37 yX11_copy ∈ tw_l := tb_3 (List.mem_of_getElem? (i := 29) rfl) rfl
theorem wd_622 : Cond.instanceMethod yX11_copy ∈ tw_l := tb_3 (List.mem_of_getElem? (i := 30) rfl) rfl
theorem wd_623 : Cond.selects RX11 yX11_copy yX11_copy ∈ tw_l := tb_3 (List.mem_of_getElem? (i := 31) rfl) rfl
theorem wd_624 : Cond.code yX11_copy cX11_copy 10 (some FieldType.int) ∈ tw_l := tb_3 (List.mem_of_getElem? (i := 32) rfl) rfl
theorem wd_625 : Cond.methodLink RX11 168 yX11_reaches ∈ tw_l := tb_3 (List.mem_of_getElem? (i := 33) rfl) rfl
theorem wd_626 : Cond.static yX11_reaches ∈ tw_l := tb_3 (List.mem_of_getElem? (i := 34) rfl) rfl
theorem wd_627 : Cond.code yX11_reaches cX11_reaches 3 (some FieldType.boolean) ∈ tw_l := tb_3 (List.mem_of_getElem? (i := 35) rfl) rfl
theorem wd_628 : Cond.methodLink RX11 172 arraycopyName ∈ tw_l := tb_3 (List.mem_of_getElem? (i := 36) rfl) rfl
theorem wd_629 : Cond.methodLink RL 42 yX11_loose ∈ tw_l := tb_3 (List.mem_of_getElem? (i := 37) rfl) rfl
theorem wd_630 : Cond.instanceMethod yX11_loose ∈ tw_l := tb_3 (List.mem_of_getElem? (i := 38) rfl) rfl
theorem wd_631 : Cond.selects RX11 yX11_loose yX11_loose ∈ tw_l := tb_3 (List.mem_of_getElem? (i := 39) rfl) rfl
theorem wd_632 : Cond.code yX11_loose cX11_loose 5 (some FieldType.int) ∈ tw_l := tb_3 (List.mem_of_getElem? (i := 40) rfl) rfl
theorem wd_633 : Cond.methodLink RL 47 yX11_open ∈ tw_l := tb_3 (List.mem_of_getElem? (i := 41) rfl) rfl
theorem wd_634 : Cond.instanceMethod yX11_open ∈ tw_l := tb_3 (List.mem_of_getElem? (i := 42) rfl) rfl
theorem wd_635 : Cond.selects RX11 yX11_open yX11_open ∈ tw_l := tb_3 (List.mem_of_getElem? (i := 43) rfl) rfl
theorem wd_636 : Cond.code yX11_open cX11_open 2 (some FieldType.int) ∈ tw_l := tb_3 (List.mem_of_getElem? (i := 44) rfl) rfl
theorem wd_637 : Cond.methodLink RX11 103 yX4_survey ∈ tw_l := tb_3 (List.mem_of_getElem? (i := 45) rfl) rfl
theorem wd_638 : Cond.instanceMethod yX4_survey ∈ tw_l := tb_3 (List.mem_of_getElem? (i := 46) rfl) rfl
theorem wd_639 : Cond.selects RX4 yX4_survey yX4_survey ∈ tw_l := tb_3 (List.mem_of_getElem? (i := 47) rfl) rfl
theorem wd_640 : Cond.code yX4_survey cX4_survey 2 (Option.none : Option FieldType) ∈ tw_l := tb_3 (List.mem_of_getElem? (i := 48) rfl) rfl
theorem wd_641 : Cond.methodLink RX4 62 yX4_findFault ∈ tw_l := tb_3 (List.mem_of_getElem? (i := 49) rfl) rfl
theorem wd_643 : Cond.instanceMethod yX4_findFault ∈ tw_l := tb_3 (List.mem_of_getElem? (i := 51) rfl) rfl
theorem wd_644 : Cond.code yX4_findFault cX4_findFault 3 (Option.none : Option FieldType) ∈ tw_l := tb_3 (List.mem_of_getElem? (i := 52) rfl) rfl
theorem wd_645 : Cond.methodLink RX4 90 yX4_blame ∈ tw_l := tb_3 (List.mem_of_getElem? (i := 53) rfl) rfl
theorem wd_647 : Cond.instanceMethod yX4_blame ∈ tw_l := tb_3 (List.mem_of_getElem? (i := 55) rfl) rfl
theorem wd_648 : Cond.code yX4_blame cX4_blame 3 (Option.none : Option FieldType) ∈ tw_l := tb_3 (List.mem_of_getElem? (i := 56) rfl) rfl
theorem wd_649 : Cond.methodLink RX4 97 yJ7_fill_53178 ∈ tw_l := tb_3 (List.mem_of_getElem? (i := 57) rfl) rfl
theorem wd_650 : Cond.methodLink RX4 66 yX4_pairUp ∈ tw_l := tb_3 (List.mem_of_getElem? (i := 58) rfl) rfl
theorem wd_651 : Cond.instanceMethod yX4_pairUp ∈ tw_l := tb_3 (List.mem_of_getElem? (i := 59) rfl) rfl
theorem wd_652 : Cond.selects RX4 yX4_pairUp yX4_pairUp ∈ tw_l := tb_3 (List.mem_of_getElem? (i := 60) rfl) rfl
theorem wd_653 : Cond.code yX4_pairUp cX4_pairUp 5 (Option.none : Option FieldType) ∈ tw_l := tb_3 (List.mem_of_getElem? (i := 61) rfl) rfl
theorem wd_654 : Cond.methodLink RX4 69 yX4_findRegions ∈ tw_l := tb_3 (List.mem_of_getElem? (i := 62) rfl) rfl
theorem wd_655 : Cond.instanceMethod yX4_findRegions ∈ tw_l := tb_3 (List.mem_of_getElem? (i := 63) rfl) rfl
theorem wd_656 : Cond.selects RX4 yX4_findRegions yX4_findRegions ∈ tw_l := tb_3 (List.mem_of_getElem? (i := 64) rfl) rfl
theorem wd_657 : Cond.code yX4_findRegions cX4_findRegions 2 (Option.none : Option FieldType) ∈ tw_l := tb_3 (List.mem_of_getElem? (i := 65) rfl) rfl
theorem wd_658 : Cond.methodLink RX4 107 yX4_walkRegion ∈ tw_l := tb_3 (List.mem_of_getElem? (i := 66) rfl) rfl
theorem wd_660 : Cond.instanceMethod yX4_walkRegion ∈ tw_l := tb_3 (List.mem_of_getElem? (i := 68) rfl) rfl
theorem wd_661 : Cond.code yX4_walkRegion cX4_walkRegion 5 (Option.none : Option FieldType) ∈ tw_l := tb_3 (List.mem_of_getElem? (i := 69) rfl) rfl
theorem wd_662 : Cond.methodLinkNest RX4 103 yX11_corner RX11 ∈ tw_l := tb_3 (List.mem_of_getElem? (i := 70) rfl) rfl
theorem wd_663 : Cond.static yX11_corner ∈ tw_l := tb_3 (List.mem_of_getElem? (i := 71) rfl) rfl
theorem wd_664 : Cond.code yX11_corner cX11_corner 2 (some FieldType.int) ∈ tw_l := tb_3 (List.mem_of_getElem? (i := 72) rfl) rfl
theorem wd_665 : Cond.methodLink RX4 72 yX4_findParts ∈ tw_l := tb_3 (List.mem_of_getElem? (i := 73) rfl) rfl
theorem wd_667 : Cond.instanceMethod yX4_findParts ∈ tw_l := tb_3 (List.mem_of_getElem? (i := 75) rfl) rfl
theorem wd_668 : Cond.code yX4_findParts cX4_findParts 2 (Option.none : Option FieldType) ∈ tw_l := tb_3 (List.mem_of_getElem? (i := 76) rfl) rfl
theorem wd_669 : Cond.methodLink RX4 111 yX4_spreadPart ∈ tw_l := tb_3 (List.mem_of_getElem? (i := 77) rfl) rfl
theorem wd_671 : Cond.instanceMethod yX4_spreadPart ∈ tw_l := tb_3 (List.mem_of_getElem? (i := 79) rfl) rfl
theorem wd_672 : Cond.code yX4_spreadPart cX4_spreadPart 6 (Option.none : Option FieldType) ∈ tw_l := tb_3 (List.mem_of_getElem? (i := 80) rfl) rfl
theorem wd_673 : Cond.methodLink RX4 81 yX4_findPieces ∈ tw_l := tb_3 (List.mem_of_getElem? (i := 81) rfl) rfl
theorem wd_675 : Cond.instanceMethod yX4_findPieces ∈ tw_l := tb_3 (List.mem_of_getElem? (i := 83) rfl) rfl
theorem wd_676 : Cond.code yX4_findPieces cX4_findPieces 2 (Option.none : Option FieldType) ∈ tw_l := tb_3 (List.mem_of_getElem? (i := 84) rfl) rfl
theorem wd_677 : Cond.methodLink RX4 114 yX4_walkPiece ∈ tw_l := tb_3 (List.mem_of_getElem? (i := 85) rfl) rfl
theorem wd_679 : Cond.instanceMethod yX4_walkPiece ∈ tw_l := tb_3 (List.mem_of_getElem? (i := 87) rfl) rfl
theorem wd_680 : Cond.code yX4_walkPiece cX4_walkPiece 5 (Option.none : Option FieldType) ∈ tw_l := tb_3 (List.mem_of_getElem? (i := 88) rfl) rfl
theorem wd_681 : Cond.methodLink RX4 84 yX4_findSigns ∈ tw_l := tb_3 (List.mem_of_getElem? (i := 89) rfl) rfl
theorem wd_683 : Cond.instanceMethod yX4_findSigns ∈ tw_l := tb_3 (List.mem_of_getElem? (i := 91) rfl) rfl
theorem wd_684 : Cond.code yX4_findSigns cX4_findSigns 4 (Option.none : Option FieldType) ∈ tw_l := tb_3 (List.mem_of_getElem? (i := 92) rfl) rfl
theorem wd_685 : Cond.methodLink RL 52 yX11_where ∈ tw_l := tb_3 (List.mem_of_getElem? (i := 93) rfl) rfl
theorem wd_686 : Cond.instanceMethod yX11_where ∈ tw_l := tb_3 (List.mem_of_getElem? (i := 94) rfl) rfl
theorem wd_687 : Cond.selects RX11 yX11_where yX11_where ∈ tw_l := tb_3 (List.mem_of_getElem? (i := 95) rfl) rfl
theorem wd_688 : Cond.code yX11_where cX11_where 1 (some FieldType.int) ∈ tw_l := tb_3 (List.mem_of_getElem? (i := 96) rfl) rfl
theorem wd_689 : Cond.methodLink RL 56 yX11_told ∈ tw_l := tb_3 (List.mem_of_getElem? (i := 97) rfl) rfl
theorem wd_690 : Cond.instanceMethod yX11_told ∈ tw_l := tb_3 (List.mem_of_getElem? (i := 98) rfl) rfl
theorem wd_691 : Cond.selects RX11 yX11_told yX11_told ∈ tw_l := tb_3 (List.mem_of_getElem? (i := 99) rfl) rfl
theorem wd_692 : Cond.code yX11_told cX11_told 3 (some FieldType.int) ∈ tw_l := tb_3 (List.mem_of_getElem? (i := 100) rfl) rfl
theorem wd_693 : Cond.methodLink RX11 184 yX11_isWhole ∈ tw_l := tb_3 (List.mem_of_getElem? (i := 101) rfl) rfl
theorem wd_695 : Cond.instanceMethod yX11_isWhole ∈ tw_l := tb_3 (List.mem_of_getElem? (i := 103) rfl) rfl
theorem wd_696 : Cond.code yX11_isWhole cX11_isWhole 3 (some FieldType.boolean) ∈ tw_l := tb_3 (List.mem_of_getElem? (i := 104) rfl) rfl
theorem wd_697 : Cond.methodLink RX11 188 yX4_allPieces ∈ tw_l := tb_3 (List.mem_of_getElem? (i := 105) rfl) rfl
theorem wd_698 : Cond.instanceMethod yX4_allPieces ∈ tw_l := tb_3 (List.mem_of_getElem? (i := 106) rfl) rfl
theorem wd_699 : Cond.selects RX4 yX4_allPieces yX4_allPieces ∈ tw_l := tb_3 (List.mem_of_getElem? (i := 107) rfl) rfl
theorem wd_700 : Cond.code yX4_allPieces cX4_allPieces 1 (some FieldType.int) ∈ tw_l := tb_3 (List.mem_of_getElem? (i := 108) rfl) rfl
theorem wd_701 : Cond.methodLink RL 60 yX11_mirror ∈ tw_l := tb_3 (List.mem_of_getElem? (i := 109) rfl) rfl
theorem wd_702 : Cond.instanceMethod yX11_mirror ∈ tw_l := tb_3 (List.mem_of_getElem? (i := 110) rfl) rfl
theorem wd_703 : Cond.selects RX11 yX11_mirror yX11_mirror ∈ tw_l := tb_3 (List.mem_of_getElem? (i := 111) rfl) rfl
theorem wd_704 : Cond.code yX11_mirror cX11_mirror 4 (some FieldType.int) ∈ tw_l := tb_3 (List.mem_of_getElem? (i := 112) rfl) rfl
theorem wd_705 : Cond.methodLink RX11 201 yX7_remember ∈ tw_l := tb_3 (List.mem_of_getElem? (i := 113) rfl) rfl
theorem wd_706 : Cond.instanceMethod yX7_remember ∈ tw_l := tb_3 (List.mem_of_getElem? (i := 114) rfl) rfl
theorem wd_707 : Cond.selects RX7 yX7_remember yX7_remember ∈ tw_l := tb_3 (List.mem_of_getElem? (i := 115) rfl) rfl
theorem wd_708 : Cond.code yX7_remember cX7_remember 2 (Option.none : Option FieldType) ∈ tw_l := tb_3 (List.mem_of_getElem? (i := 116) rfl) rfl
theorem wd_709 : Cond.methodLink RX7 79 yJ9_min_7cf53 ∈ tw_l := tb_3 (List.mem_of_getElem? (i := 117) rfl) rfl
theorem wd_710 : Cond.static yJ9_min_7cf53 ∈ tw_l := tb_3 (List.mem_of_getElem? (i := 118) rfl) rfl
theorem wd_711 : Cond.code yJ9_min_7cf53 cJ9_min_7cf53 2 (some FieldType.int) ∈ tw_l := tb_3 (List.mem_of_getElem? (i := 119) rfl) rfl
theorem wd_712 : Cond.methodLink RX11 204 yX7_rotate ∈ tw_l := tb_3 (List.mem_of_getElem? (i := 120) rfl) rfl
theorem wd_713 : Cond.instanceMethod yX7_rotate ∈ tw_l := tb_3 (List.mem_of_getElem? (i := 121) rfl) rfl
theorem wd_714 : Cond.selects RX7 yX7_rotate yX7_rotate ∈ tw_l := tb_3 (List.mem_of_getElem? (i := 122) rfl) rfl
theorem wd_715 : Cond.code yX7_rotate cX7_rotate 8 (Option.none : Option FieldType) ∈ tw_l := tb_3 (List.mem_of_getElem? (i := 123) rfl) rfl
theorem wd_716 : Cond.methodLinkNest RX7 43 yX11_corner RX11 ∈ tw_l := tb_3 (List.mem_of_getElem? (i := 124) rfl) rfl
theorem wd_717 : Cond.methodLink RL 64 yX11_turn ∈ tw_l := tb_3 (List.mem_of_getElem? (i := 125) rfl) rfl
theorem wd_718 : Cond.instanceMethod yX11_turn ∈ tw_l := tb_3 (List.mem_of_getElem? (i := 126) rfl) rfl
theorem wd_719 : Cond.selects RX11 yX11_turn yX11_turn ∈ tw_l := tb_3 (List.mem_of_getElem? (i := 127) rfl) rfl
theorem wd_720 : Cond.code yX11_turn cX11_turn 4 (some FieldType.int) ∈ tw_l := tb_3 (List.mem_of_getElem? (i := 128) rfl) rfl
theorem wd_721 : Cond.methodLink RX11 207 yX7_flip ∈ tw_l := tb_3 (List.mem_of_getElem? (i := 129) rfl) rfl
theorem wd_722 : Cond.instanceMethod yX7_flip ∈ tw_l := tb_3 (List.mem_of_getElem? (i := 130) rfl) rfl
theorem wd_723 : Cond.selects RX7 yX7_flip yX7_flip ∈ tw_l := tb_3 (List.mem_of_getElem? (i := 131) rfl) rfl
theorem wd_724 : Cond.code yX7_flip cX7_flip 2 (Option.none : Option FieldType) ∈ tw_l := tb_3 (List.mem_of_getElem? (i := 132) rfl) rfl
theorem wd_725 : Cond.methodLink RX7 46 yX7_swap ∈ tw_l := tb_3 (List.mem_of_getElem? (i := 133) rfl) rfl
theorem wd_727 : Cond.instanceMethod yX7_swap ∈ tw_l := tb_3 (List.mem_of_getElem? (i := 135) rfl) rfl
theorem wd_728 : Cond.code yX7_swap cX7_swap 4 (Option.none : Option FieldType) ∈ tw_l := tb_3 (List.mem_of_getElem? (i := 136) rfl) rfl
theorem wd_729 : Cond.methodLink RL 68 yX11_join ∈ tw_l := tb_3 (List.mem_of_getElem? (i := 137) rfl) rfl
theorem wd_730 : Cond.instanceMethod yX11_join ∈ tw_l := tb_3 (List.mem_of_getElem? (i := 138) rfl) rfl
theorem wd_731 : Cond.selects RX11 yX11_join yX11_join ∈ tw_l := tb_3 (List.mem_of_getElem? (i := 139) rfl) rfl
theorem wd_732 : Cond.code yX11_join cX11_join 7 (some FieldType.int) ∈ tw_l := tb_3 (List.mem_of_getElem? (i := 140) rfl) rfl
theorem wd_733 : Cond.methodLink RX11 210 yX4_hasEnd ∈ tw_l := tb_3 (List.mem_of_getElem? (i := 141) rfl) rfl
theorem wd_734 : Cond.instanceMethod yX4_hasEnd ∈ tw_l := tb_3 (List.mem_of_getElem? (i := 142) rfl) rfl
theorem wd_735 : Cond.selects RX4 yX4_hasEnd yX4_hasEnd ∈ tw_l := tb_3 (List.mem_of_getElem? (i := 143) rfl) rfl
theorem wd_736 : Cond.code yX4_hasEnd cX4_hasEnd 2 (some FieldType.boolean) ∈ tw_l := tb_3 (List.mem_of_getElem? (i := 144) rfl) rfl
theorem wd_737 : Cond.methodLink RX11 215 yX7_append ∈ tw_l := tb_3 (List.mem_of_getElem? (i := 145) rfl) rfl
theorem wd_738 : Cond.instanceMethod yX7_append ∈ tw_l := tb_3 (List.mem_of_getElem? (i := 146) rfl) rfl
theorem wd_739 : Cond.selects RX7 yX7_append yX7_append ∈ tw_l := tb_3 (List.mem_of_getElem? (i := 147) rfl) rfl
theorem wd_740 : Cond.code yX7_append cX7_append 6 (Option.none : Option FieldType) ∈ tw_l := tb_3 (List.mem_of_getElem? (i := 148) rfl) rfl
theorem wd_741 : Cond.methodLink RX7 57 yX7_add ∈ tw_l := tb_3 (List.mem_of_getElem? (i := 149) rfl) rfl
theorem wd_742 : Cond.methodLink RX7 66 yX7_freeArc ∈ tw_l := tb_3 (List.mem_of_getElem? (i := 150) rfl) rfl
theorem wd_743 : Cond.instanceMethod yX7_freeArc ∈ tw_l := tb_3 (List.mem_of_getElem? (i := 151) rfl) rfl
theorem wd_744 : Cond.selects RX7 yX7_freeArc yX7_freeArc ∈ tw_l := tb_3 (List.mem_of_getElem? (i := 152) rfl) rfl
theorem wd_745 : Cond.code yX7_freeArc cX7_freeArc 9 (some FieldType.int) ∈ tw_l := tb_3 (List.mem_of_getElem? (i := 153) rfl) rfl
theorem wd_746 : Cond.methodLink RX11 219 yX7_freeArc ∈ tw_l := tb_3 (List.mem_of_getElem? (i := 154) rfl) rfl
theorem wd_747 : Cond.methodLink RL 72 yX11_twin ∈ tw_l := tb_3 (List.mem_of_getElem? (i := 155) rfl) rfl
theorem wd_748 : Cond.instanceMethod yX11_twin ∈ tw_l := tb_3 (List.mem_of_getElem? (i := 156) rfl) rfl
theorem wd_749 : Cond.selects RX11 yX11_twin yX11_twin ∈ tw_l := tb_3 (List.mem_of_getElem? (i := 157) rfl) rfl
theorem wd_750 : Cond.code yX11_twin cX11_twin 2 (some FieldType.int) ∈ tw_l := tb_3 (List.mem_of_getElem? (i := 158) rfl) rfl
theorem wd_751 : Cond.methodLink RL 76 yX11_undo ∈ tw_l := tb_3 (List.mem_of_getElem? (i := 159) rfl) rfl
theorem wd_752 : Cond.instanceMethod yX11_undo ∈ tw_l := tb_3 (List.mem_of_getElem? (i := 160) rfl) rfl
theorem wd_753 : Cond.selects RX11 yX11_undo yX11_undo ∈ tw_l := tb_3 (List.mem_of_getElem? (i := 161) rfl) rfl
theorem wd_754 : Cond.code yX11_undo cX11_undo 2 (some FieldType.int) ∈ tw_l := tb_3 (List.mem_of_getElem? (i := 162) rfl) rfl
theorem wd_755 : Cond.methodLink RX11 225 yX7_goBack ∈ tw_l := tb_3 (List.mem_of_getElem? (i := 163) rfl) rfl
theorem wd_756 : Cond.instanceMethod yX7_goBack ∈ tw_l := tb_3 (List.mem_of_getElem? (i := 164) rfl) rfl
theorem wd_757 : Cond.selects RX7 yX7_goBack yX7_goBack ∈ tw_l := tb_3 (List.mem_of_getElem? (i := 165) rfl) rfl
theorem wd_758 : Cond.code yX7_goBack cX7_goBack 2 (some FieldType.boolean) ∈ tw_l := tb_3 (List.mem_of_getElem? (i := 166) rfl) rfl
theorem wd_759 : Cond.methodLink RX7 54 yJ7_fill_fda19 ∈ tw_l := tb_3 (List.mem_of_getElem? (i := 167) rfl) rfl
theorem wd_760 : Cond.static yJ7_fill_fda19 ∈ tw_l := tb_3 (List.mem_of_getElem? (i := 168) rfl) rfl
theorem wd_761 : Cond.code yJ7_fill_fda19 cJ7_fill_fda19 5 (Option.none : Option FieldType) ∈ tw_l := tb_3 (List.mem_of_getElem? (i := 169) rfl) rfl
theorem wd_762 : Cond.methodLink RJ7 13 yJ7_rangeCheck_23922 ∈ tw_l := tb_3 (List.mem_of_getElem? (i := 170) rfl) rfl
theorem wd_763 : Cond.static yJ7_rangeCheck_23922 ∈ tw_l := tb_3 (List.mem_of_getElem? (i := 171) rfl) rfl
theorem wd_764 : Cond.code yJ7_rangeCheck_23922 cJ7_rangeCheck_23922 3 (Option.none : Option FieldType) ∈ tw_l := tb_3 (List.mem_of_getElem? (i := 172) rfl) rfl
theorem wd_765 : Cond.methodLink RL 80 yX11_sign ∈ tw_l := tb_3 (List.mem_of_getElem? (i := 173) rfl) rfl
theorem wd_766 : Cond.instanceMethod yX11_sign ∈ tw_l := tb_3 (List.mem_of_getElem? (i := 174) rfl) rfl
theorem wd_767 : Cond.selects RX11 yX11_sign yX11_sign ∈ tw_l := tb_3 (List.mem_of_getElem? (i := 175) rfl) rfl
theorem wd_768 : Cond.code yX11_sign cX11_sign 3 (some FieldType.int) ∈ tw_l := tb_3 (List.mem_of_getElem? (i := 176) rfl) rfl
theorem wd_769 : Cond.methodLink RL 84 yX11_pieceOf ∈ tw_l := tb_3 (List.mem_of_getElem? (i := 177) rfl) rfl
theorem wd_770 : Cond.instanceMethod yX11_pieceOf ∈ tw_l := tb_3 (List.mem_of_getElem? (i := 178) rfl) rfl
theorem wd_771 : Cond.selects RX11 yX11_pieceOf yX11_pieceOf ∈ tw_l := tb_3 (List.mem_of_getElem? (i := 179) rfl) rfl
theorem wd_772 : Cond.code yX11_pieceOf cX11_pieceOf 3 (some FieldType.int) ∈ tw_l := tb_3 (List.mem_of_getElem? (i := 180) rfl) rfl
theorem wd_773 : Cond.methodLink RL 88 yX11_linking ∈ tw_l := tb_3 (List.mem_of_getElem? (i := 181) rfl) rfl
theorem wd_774 : Cond.instanceMethod yX11_linking ∈ tw_l := tb_3 (List.mem_of_getElem? (i := 182) rfl) rfl
theorem wd_775 : Cond.selects RX11 yX11_linking yX11_linking ∈ tw_l := tb_3 (List.mem_of_getElem? (i := 183) rfl) rfl
theorem wd_776 : Cond.code yX11_linking cX11_linking 5 (some FieldType.int) ∈ tw_l := tb_3 (List.mem_of_getElem? (i := 184) rfl) rfl
theorem wd_777 : Cond.methodLink RX11 237 yX4_linkOf ∈ tw_l := tb_3 (List.mem_of_getElem? (i := 185) rfl) rfl
theorem wd_778 : Cond.instanceMethod yX4_linkOf ∈ tw_l := tb_3 (List.mem_of_getElem? (i := 186) rfl) rfl
theorem wd_779 : Cond.selects RX4 yX4_linkOf yX4_linkOf ∈ tw_l := tb_3 (List.mem_of_getElem? (i := 187) rfl) rfl
theorem wd_780 : Cond.code yX4_linkOf cX4_linkOf 7 (some FieldType.int) ∈ tw_l := tb_3 (List.mem_of_getElem? (i := 188) rfl) rfl
theorem wd_781 : Cond.methodLink RL 92 yX11_colours ∈ tw_l := tb_3 (List.mem_of_getElem? (i := 189) rfl) rfl
theorem wd_782 : Cond.instanceMethod yX11_colours ∈ tw_l := tb_3 (List.mem_of_getElem? (i := 190) rfl) rfl
theorem wd_783 : Cond.selects RX11 yX11_colours yX11_colours ∈ tw_l := tb_3 (List.mem_of_getElem? (i := 191) rfl) rfl
theorem wd_784 : Cond.code yX11_colours cX11_colours 3 (some FieldType.int) ∈ tw_l := tb_3 (List.mem_of_getElem? (i := 192) rfl) rfl
theorem wd_785 : Cond.methodLink RX11 244 yX11_isColourCount ∈ tw_l := tb_3 (List.mem_of_getElem? (i := 193) rfl) rfl
theorem wd_786 : Cond.static yX11_isColourCount ∈ tw_l := tb_3 (List.mem_of_getElem? (i := 194) rfl) rfl
theorem wd_787 : Cond.code yX11_isColourCount cX11_isColourCount 2 (some FieldType.boolean) ∈ tw_l := tb_3 (List.mem_of_getElem? (i := 195) rfl) rfl
theorem wd_788 : Cond.fieldLink RX11 241 RX11 "COLOUR_COUNTS" "[I" ∈ tw_l := tb_3 (List.mem_of_getElem? (i := 196) rfl) rfl
theorem wd_790 : Cond.methodLink RX11 247 yX1_powerOf ∈ tw_l := tb_3 (List.mem_of_getElem? (i := 198) rfl) rfl
theorem wd_791 : Cond.instanceMethod yX1_powerOf ∈ tw_l := tb_3 (List.mem_of_getElem? (i := 199) rfl) rfl
theorem wd_792 : Cond.selects RX1 yX1_powerOf yX1_powerOf ∈ tw_l := tb_3 (List.mem_of_getElem? (i := 200) rfl) rfl
theorem wd_793 : Cond.code yX1_powerOf cX1_powerOf 6 (some FieldType.int) ∈ tw_l := tb_3 (List.mem_of_getElem? (i := 201) rfl) rfl
theorem wd_794 : Cond.methodLink RX1 20 yX1_findStrands ∈ tw_l := tb_3 (List.mem_of_getElem? (i := 202) rfl) rfl
theorem wd_796 : Cond.instanceMethod yX1_findStrands ∈ tw_l := tb_3 (List.mem_of_getElem? (i := 204) rfl) rfl
theorem wd_797 : Cond.code yX1_findStrands cX1_findStrands 3 (Option.none : Option FieldType) ∈ tw_l := tb_3 (List.mem_of_getElem? (i := 205) rfl) rfl
theorem wd_798 : Cond.methodLink RX1 30 yJ7_fill_53178 ∈ tw_l := tb_3 (List.mem_of_getElem? (i := 206) rfl) rfl
theorem wd_799 : Cond.methodLink RX1 51 yX1_walkStrand ∈ tw_l := tb_3 (List.mem_of_getElem? (i := 207) rfl) rfl
theorem wd_801 : Cond.instanceMethod yX1_walkStrand ∈ tw_l := tb_3 (List.mem_of_getElem? (i := 209) rfl) rfl
theorem wd_802 : Cond.code yX1_walkStrand cX1_walkStrand 6 (Option.none : Option FieldType) ∈ tw_l := tb_3 (List.mem_of_getElem? (i := 210) rfl) rfl
theorem wd_803 : Cond.methodLinkNest RX1 55 yX11_corner RX11 ∈ tw_l := tb_3 (List.mem_of_getElem? (i := 211) rfl) rfl
theorem wd_804 : Cond.methodLink RX1 36 yJ9_floorMod_7cf53 ∈ tw_l := tb_3 (List.mem_of_getElem? (i := 212) rfl) rfl
theorem wd_805 : Cond.static yJ9_floorMod_7cf53 ∈ tw_l := tb_3 (List.mem_of_getElem? (i := 213) rfl) rfl
theorem wd_806 : Cond.code yJ9_floorMod_7cf53 cJ9_floorMod_7cf53 3 (some FieldType.int) ∈ tw_l := tb_3 (List.mem_of_getElem? (i := 214) rfl) rfl
theorem wd_807 : Cond.methodLink RX1 45 yX1_rank ∈ tw_l := tb_3 (List.mem_of_getElem? (i := 215) rfl) rfl
theorem wd_809 : Cond.instanceMethod yX1_rank ∈ tw_l := tb_3 (List.mem_of_getElem? (i := 217) rfl) rfl
theorem wd_810 : Cond.code yX1_rank cX1_rank 7 (some FieldType.int) ∈ tw_l := tb_3 (List.mem_of_getElem? (i := 218) rfl) rfl
theorem wd_811 : Cond.methodLink RX1 61 yX1_pivotOf ∈ tw_l := tb_3 (List.mem_of_getElem? (i := 219) rfl) rfl
theorem wd_813 : Cond.instanceMethod yX1_pivotOf ∈ tw_l := tb_3 (List.mem_of_getElem? (i := 221) rfl) rfl
theorem wd_814 : Cond.code yX1_pivotOf cX1_pivotOf 5 (some FieldType.int) ∈ tw_l := tb_3 (List.mem_of_getElem? (i := 222) rfl) rfl
theorem wd_815 : Cond.methodLink RX1 65 yX1_clearBelow ∈ tw_l := tb_3 (List.mem_of_getElem? (i := 223) rfl) rfl
theorem wd_817 : Cond.instanceMethod yX1_clearBelow ∈ tw_l := tb_3 (List.mem_of_getElem? (i := 225) rfl) rfl
theorem wd_818 : Cond.code yX1_clearBelow cX1_clearBelow 11 (Option.none : Option FieldType) ∈ tw_l := tb_3 (List.mem_of_getElem? (i := 226) rfl) rfl
theorem wd_819 : Cond.methodLink RX1 69 yX1_inverse ∈ tw_l := tb_3 (List.mem_of_getElem? (i := 227) rfl) rfl
theorem wd_820 : Cond.static yX1_inverse ∈ tw_l := tb_3 (List.mem_of_getElem? (i := 228) rfl) rfl
theorem wd_821 : Cond.code yX1_inverse cX1_inverse 3 (some FieldType.int) ∈ tw_l := tb_3 (List.mem_of_getElem? (i := 229) rfl) rfl
theorem wd_822 : Cond.methodLink RL 96 yX11_bracket ∈ tw_l := tb_3 (List.mem_of_getElem? (i := 230) rfl) rfl
theorem wd_823 : Cond.instanceMethod yX11_bracket ∈ tw_l := tb_3 (List.mem_of_getElem? (i := 231) rfl) rfl
theorem wd_824 : Cond.selects RX11 yX11_bracket yX11_bracket ∈ tw_l := tb_3 (List.mem_of_getElem? (i := 232) rfl) rfl
theorem wd_825 : Cond.code yX11_bracket cX11_bracket 3 (some FieldType.int) ∈ tw_l := tb_3 (List.mem_of_getElem? (i := 233) rfl) rfl
theorem wd_826 : Cond.methodLink RX11 257 yX11_whyNoBracket ∈ tw_l := tb_3 (List.mem_of_getElem? (i := 234) rfl) rfl
theorem wd_828 : Cond.instanceMethod yX11_whyNoBracket ∈ tw_l := tb_3 (List.mem_of_getElem? (i := 236) rfl) rfl
theorem wd_829 : Cond.code yX11_whyNoBracket cX11_whyNoBracket 3 (some FieldType.int) ∈ tw_l := tb_3 (List.mem_of_getElem? (i := 237) rfl) rfl
theorem wd_830 : Cond.methodLink RX11 251 yX9_costOf ∈ tw_l := tb_3 (List.mem_of_getElem? (i := 238) rfl) rfl
theorem wd_831 : Cond.static yX9_costOf ∈ tw_l := tb_3 (List.mem_of_getElem? (i := 239) rfl) rfl
theorem wd_832 : Cond.code yX9_costOf cX9_costOf 1 (some FieldType.int) ∈ tw_l := tb_4 (List.mem_of_getElem? (i := 0) rfl) rfl
theorem wd_833 : Cond.methodLink RX9 20 yJ9_max_7cf53 ∈ tw_l := tb_4 (List.mem_of_getElem? (i := 1) rfl) rfl
theorem wd_834 : Cond.methodLink RX9 26 yJ9_min_7cf53 ∈ tw_l := tb_4 (List.mem_of_getElem? (i := 2) rfl) rfl
theorem wd_835 : Cond.methodLink RX11 254 yX9_affords ∈ tw_l := tb_4 (List.mem_of_getElem? (i := 3) rfl) rfl
theorem wd_836 : Cond.instanceMethod yX9_affords ∈ tw_l := tb_4 (List.mem_of_getElem? (i := 4) rfl) rfl
theorem wd_837 : Cond.selects RX9 yX9_affords yX9_affords ∈ tw_l := tb_4 (List.mem_of_getElem? (i := 5) rfl) rfl
theorem wd_838 : Cond.code yX9_affords cX9_affords 2 (some FieldType.boolean) ∈ tw_l := tb_4 (List.mem_of_getElem? (i := 6) rfl) rfl
theorem wd_839 : Cond.constant RX9 33 (1000000) ∈ tw_l := tb_4 (List.mem_of_getElem? (i := 7) rfl) rfl
theorem wd_840 : Cond.methodLink RX11 260 yX9_makeBracket ∈ tw_l := tb_4 (List.mem_of_getElem? (i := 8) rfl) rfl
theorem wd_841 : Cond.instanceMethod yX9_makeBracket ∈ tw_l := tb_4 (List.mem_of_getElem? (i := 9) rfl) rfl
theorem wd_842 : Cond.selects RX9 yX9_makeBracket yX9_makeBracket ∈ tw_l := tb_4 (List.mem_of_getElem? (i := 10) rfl) rfl
theorem wd_843 : Cond.code yX9_makeBracket cX9_makeBracket 6 (Option.none : Option FieldType) ∈ tw_l := tb_4 (List.mem_of_getElem? (i := 11) rfl) rfl
theorem wd_844 : Cond.methodLink RX9 40 yX9_costOf ∈ tw_l := tb_4 (List.mem_of_getElem? (i := 12) rfl) rfl
theorem wd_845 : Cond.methodLink RX9 47 yJ7_fill_53178 ∈ tw_l := tb_4 (List.mem_of_getElem? (i := 13) rfl) rfl
theorem wd_846 : Cond.methodLink RX9 56 arraycopyName ∈ tw_l := tb_4 (List.mem_of_getElem? (i := 14) rfl) rfl
theorem wd_847 : Cond.methodLink RX9 62 yX9_smoothFrom ∈ tw_l := tb_4 (List.mem_of_getElem? (i := 15) rfl) rfl
theorem wd_849 : Cond.instanceMethod yX9_smoothFrom ∈ tw_l := tb_4 (List.mem_of_getElem? (i := 17) rfl) rfl
theorem wd_850 : Cond.code yX9_smoothFrom cX9_smoothFrom 6 (Option.none : Option FieldType) ∈ tw_l := tb_4 (List.mem_of_getElem? (i := 18) rfl) rfl
theorem wd_851 : Cond.methodLink RX9 89 yX9_tie ∈ tw_l := tb_4 (List.mem_of_getElem? (i := 19) rfl) rfl
theorem wd_853 : Cond.instanceMethod yX9_tie ∈ tw_l := tb_4 (List.mem_of_getElem? (i := 21) rfl) rfl
theorem wd_854 : Cond.code yX9_tie cX9_tie 3 (some FieldType.int) ∈ tw_l := tb_4 (List.mem_of_getElem? (i := 22) rfl) rfl
theorem wd_855 : Cond.methodLink RX9 92 yX9_untie ∈ tw_l := tb_4 (List.mem_of_getElem? (i := 23) rfl) rfl
theorem wd_857 : Cond.instanceMethod yX9_untie ∈ tw_l := tb_4 (List.mem_of_getElem? (i := 25) rfl) rfl
theorem wd_858 : Cond.code yX9_untie cX9_untie 3 (Option.none : Option FieldType) ∈ tw_l := tb_4 (List.mem_of_getElem? (i := 26) rfl) rfl
theorem wd_859 : Cond.methodLink RX9 66 yX2_empty ∈ tw_l := tb_4 (List.mem_of_getElem? (i := 27) rfl) rfl
theorem wd_860 : Cond.instanceMethod yX2_empty ∈ tw_l := tb_4 (List.mem_of_getElem? (i := 28) rfl) rfl
theorem wd_861 : Cond.selects RX2 yX2_empty yX2_empty ∈ tw_l := tb_4 (List.mem_of_getElem? (i := 29) rfl) rfl
theorem wd_862 : Cond.code yX2_empty cX2_empty 1 (Option.none : Option FieldType) ∈ tw_l := tb_4 (List.mem_of_getElem? (i := 30) rfl) rfl
theorem wd_863 : Cond.methodLink RX2 16 yJ7_fill_d0a16 ∈ tw_l := tb_4 (List.mem_of_getElem? (i := 31) rfl) rfl
theorem wd_864 : Cond.static yJ7_fill_d0a16 ∈ tw_l := tb_4 (List.mem_of_getElem? (i := 32) rfl) rfl
theorem wd_865 : Cond.code yJ7_fill_d0a16 cJ7_fill_d0a16 5 (Option.none : Option FieldType) ∈ tw_l := tb_4 (List.mem_of_getElem? (i := 33) rfl) rfl
theorem wd_866 : Cond.methodLink RX9 71 yX2_multiplyByCircle ∈ tw_l := tb_4 (List.mem_of_getElem? (i := 34) rfl) rfl
theorem wd_867 : Cond.instanceMethod yX2_multiplyByCircle ∈ tw_l := tb_4 (List.mem_of_getElem? (i := 35) rfl) rfl
theorem wd_868 : Cond.selects RX2 yX2_multiplyByCircle yX2_multiplyByCircle ∈ tw_l := tb_4 (List.mem_of_getElem? (i := 36) rfl) rfl
theorem wd_869 : Cond.code yX2_multiplyByCircle cX2_multiplyByCircle 2 (Option.none : Option FieldType) ∈ tw_l := tb_4 (List.mem_of_getElem? (i := 37) rfl) rfl
theorem wd_870 : Cond.methodLink RX2 26 yX2_numberAt ∈ tw_l := tb_4 (List.mem_of_getElem? (i := 38) rfl) rfl
theorem wd_871 : Cond.instanceMethod yX2_numberAt ∈ tw_l := tb_4 (List.mem_of_getElem? (i := 39) rfl) rfl
theorem wd_872 : Cond.selects RX2 yX2_numberAt yX2_numberAt ∈ tw_l := tb_4 (List.mem_of_getElem? (i := 40) rfl) rfl
theorem wd_873 : Cond.code yX2_numberAt cX2_numberAt 2 (some FieldType.long) ∈ tw_l := tb_4 (List.mem_of_getElem? (i := 41) rfl) rfl
theorem wd_874 : Cond.methodLink RX2 30 yX2_swapRows ∈ tw_l := tb_4 (List.mem_of_getElem? (i := 42) rfl) rfl
theorem wd_876 : Cond.instanceMethod yX2_swapRows ∈ tw_l := tb_4 (List.mem_of_getElem? (i := 44) rfl) rfl
theorem wd_877 : Cond.code yX2_swapRows cX2_swapRows 2 (Option.none : Option FieldType) ∈ tw_l := tb_4 (List.mem_of_getElem? (i := 45) rfl) rfl
theorem wd_878 : Cond.methodLink RX9 74 yX2_add ∈ tw_l := tb_4 (List.mem_of_getElem? (i := 46) rfl) rfl
theorem wd_879 : Cond.instanceMethod yX2_add ∈ tw_l := tb_4 (List.mem_of_getElem? (i := 47) rfl) rfl
theorem wd_880 : Cond.selects RX2 yX2_add yX2_add ∈ tw_l := tb_4 (List.mem_of_getElem? (i := 48) rfl) rfl
theorem wd_881 : Cond.code yX2_add cX2_add 4 (Option.none : Option FieldType) ∈ tw_l := tb_4 (List.mem_of_getElem? (i := 49) rfl) rfl
theorem wd_882 : Cond.methodLink RX11 264 yX2_countNumbers ∈ tw_l := tb_4 (List.mem_of_getElem? (i := 50) rfl) rfl
theorem wd_883 : Cond.instanceMethod yX2_countNumbers ∈ tw_l := tb_4 (List.mem_of_getElem? (i := 51) rfl) rfl
theorem wd_884 : Cond.selects RX2 yX2_countNumbers yX2_countNumbers ∈ tw_l := tb_4 (List.mem_of_getElem? (i := 52) rfl) rfl
theorem wd_885 : Cond.code yX2_countNumbers cX2_countNumbers 3 (some FieldType.int) ∈ tw_l := tb_4 (List.mem_of_getElem? (i := 53) rfl) rfl
theorem wd_886 : Cond.methodLink RL 100 yX11_polynomial ∈ tw_l := tb_4 (List.mem_of_getElem? (i := 54) rfl) rfl
theorem wd_887 : Cond.instanceMethod yX11_polynomial ∈ tw_l := tb_4 (List.mem_of_getElem? (i := 55) rfl) rfl
theorem wd_888 : Cond.selects RX11 yX11_polynomial yX11_polynomial ∈ tw_l := tb_4 (List.mem_of_getElem? (i := 56) rfl) rfl
theorem wd_889 : Cond.code yX11_polynomial cX11_polynomial 3 (some FieldType.int) ∈ tw_l := tb_4 (List.mem_of_getElem? (i := 57) rfl) rfl
theorem wd_890 : Cond.methodLink RX11 267 yX9_makePolynomial ∈ tw_l := tb_4 (List.mem_of_getElem? (i := 58) rfl) rfl
theorem wd_891 : Cond.instanceMethod yX9_makePolynomial ∈ tw_l := tb_4 (List.mem_of_getElem? (i := 59) rfl) rfl
theorem wd_892 : Cond.selects RX9 yX9_makePolynomial yX9_makePolynomial ∈ tw_l := tb_4 (List.mem_of_getElem? (i := 60) rfl) rfl
theorem wd_893 : Cond.code yX9_makePolynomial cX9_makePolynomial 3 (Option.none : Option FieldType) ∈ tw_l := tb_4 (List.mem_of_getElem? (i := 61) rfl) rfl
theorem wd_894 : Cond.methodLink RX9 78 yX9_makeBracket ∈ tw_l := tb_4 (List.mem_of_getElem? (i := 62) rfl) rfl
theorem wd_895 : Cond.methodLink RX9 85 yX2_levelOut ∈ tw_l := tb_4 (List.mem_of_getElem? (i := 63) rfl) rfl
theorem wd_896 : Cond.instanceMethod yX2_levelOut ∈ tw_l := tb_4 (List.mem_of_getElem? (i := 64) rfl) rfl
theorem wd_897 : Cond.selects RX2 yX2_levelOut yX2_levelOut ∈ tw_l := tb_4 (List.mem_of_getElem? (i := 65) rfl) rfl
theorem wd_898 : Cond.code yX2_levelOut cX2_levelOut 4 (Option.none : Option FieldType) ∈ tw_l := tb_4 (List.mem_of_getElem? (i := 66) rfl) rfl
theorem wd_899 : Cond.methodLink RL 104 yX11_at ∈ tw_l := tb_4 (List.mem_of_getElem? (i := 67) rfl) rfl
theorem wd_900 : Cond.instanceMethod yX11_at ∈ tw_l := tb_4 (List.mem_of_getElem? (i := 68) rfl) rfl
theorem wd_901 : Cond.selects RX11 yX11_at yX11_at ∈ tw_l := tb_4 (List.mem_of_getElem? (i := 69) rfl) rfl
theorem wd_902 : Cond.code yX11_at cX11_at 2 (some FieldType.long) ∈ tw_l := tb_4 (List.mem_of_getElem? (i := 70) rfl) rfl
theorem wd_903 : Cond.methodLink RX11 270 yX2_numberAt ∈ tw_l := tb_4 (List.mem_of_getElem? (i := 71) rfl) rfl
theorem wd_904 : Cond.methodLink RL 109 yX11_power ∈ tw_l := tb_4 (List.mem_of_getElem? (i := 72) rfl) rfl
theorem wd_905 : Cond.instanceMethod yX11_power ∈ tw_l := tb_4 (List.mem_of_getElem? (i := 73) rfl) rfl
theorem wd_906 : Cond.selects RX11 yX11_power yX11_power ∈ tw_l := tb_4 (List.mem_of_getElem? (i := 74) rfl) rfl
theorem wd_907 : Cond.code yX11_power cX11_power 2 (some FieldType.int) ∈ tw_l := tb_4 (List.mem_of_getElem? (i := 75) rfl) rfl
theorem wd_908 : Cond.methodLink RX11 278 yX2_lowest ∈ tw_l := tb_4 (List.mem_of_getElem? (i := 76) rfl) rfl
theorem wd_909 : Cond.instanceMethod yX2_lowest ∈ tw_l := tb_4 (List.mem_of_getElem? (i := 77) rfl) rfl
theorem wd_910 : Cond.selects RX2 yX2_lowest yX2_lowest ∈ tw_l := tb_4 (List.mem_of_getElem? (i := 78) rfl) rfl
theorem wd_911 : Cond.code yX2_lowest cX2_lowest 2 (some FieldType.int) ∈ tw_l := tb_4 (List.mem_of_getElem? (i := 79) rfl) rfl
theorem wd_912 : Cond.methodLink RX11 281 yX2_highest ∈ tw_l := tb_4 (List.mem_of_getElem? (i := 80) rfl) rfl
theorem wd_913 : Cond.instanceMethod yX2_highest ∈ tw_l := tb_4 (List.mem_of_getElem? (i := 81) rfl) rfl
theorem wd_914 : Cond.selects RX2 yX2_highest yX2_highest ∈ tw_l := tb_4 (List.mem_of_getElem? (i := 82) rfl) rfl
theorem wd_915 : Cond.code yX2_highest cX2_highest 2 (some FieldType.int) ∈ tw_l := tb_4 (List.mem_of_getElem? (i := 83) rfl) rfl
theorem wd_916 : Cond.methodLink RL 113 yX11_determinant ∈ tw_l := tb_4 (List.mem_of_getElem? (i := 84) rfl) rfl
theorem wd_917 : Cond.instanceMethod yX11_determinant ∈ tw_l := tb_4 (List.mem_of_getElem? (i := 85) rfl) rfl
theorem wd_918 : Cond.selects RX11 yX11_determinant yX11_determinant ∈ tw_l := tb_4 (List.mem_of_getElem? (i := 86) rfl) rfl
theorem wd_919 : Cond.code yX11_determinant cX11_determinant 3 (some FieldType.long) ∈ tw_l := tb_4 (List.mem_of_getElem? (i := 87) rfl) rfl
theorem wd_920 : Cond.methodLink RX11 284 yX2_alternatingSize ∈ tw_l := tb_4 (List.mem_of_getElem? (i := 88) rfl) rfl
theorem wd_921 : Cond.instanceMethod yX2_alternatingSize ∈ tw_l := tb_4 (List.mem_of_getElem? (i := 89) rfl) rfl
theorem wd_922 : Cond.selects RX2 yX2_alternatingSize yX2_alternatingSize ∈ tw_l := tb_4 (List.mem_of_getElem? (i := 90) rfl) rfl
theorem wd_923 : Cond.code yX2_alternatingSize cX2_alternatingSize 5 (some FieldType.long) ∈ tw_l := tb_4 (List.mem_of_getElem? (i := 91) rfl) rfl
theorem wd_924 : Cond.methodLink RX2 33 yX2_lowest ∈ tw_l := tb_4 (List.mem_of_getElem? (i := 92) rfl) rfl
theorem wd_925 : Cond.methodLink RX2 37 yJ9_abs_067f4 ∈ tw_l := tb_4 (List.mem_of_getElem? (i := 93) rfl) rfl
theorem wd_926 : Cond.static yJ9_abs_067f4 ∈ tw_l := tb_4 (List.mem_of_getElem? (i := 94) rfl) rfl
theorem wd_927 : Cond.code yJ9_abs_067f4 cJ9_abs_067f4 2 (some FieldType.long) ∈ tw_l := tb_4 (List.mem_of_getElem? (i := 95) rfl) rfl
theorem wd_928 : Cond.methodLink RL 117 yX11_gauss ∈ tw_l := tb_4 (List.mem_of_getElem? (i := 96) rfl) rfl
theorem wd_929 : Cond.instanceMethod yX11_gauss ∈ tw_l := tb_4 (List.mem_of_getElem? (i := 97) rfl) rfl
theorem wd_930 : Cond.selects RX11 yX11_gauss yX11_gauss ∈ tw_l := tb_4 (List.mem_of_getElem? (i := 98) rfl) rfl
theorem wd_931 : Cond.code yX11_gauss cX11_gauss 2 (some FieldType.int) ∈ tw_l := tb_4 (List.mem_of_getElem? (i := 99) rfl) rfl
theorem wd_932 : Cond.methodLink RX11 288 yX4_spell ∈ tw_l := tb_4 (List.mem_of_getElem? (i := 100) rfl) rfl
theorem wd_933 : Cond.instanceMethod yX4_spell ∈ tw_l := tb_4 (List.mem_of_getElem? (i := 101) rfl) rfl
theorem wd_934 : Cond.selects RX4 yX4_spell yX4_spell ∈ tw_l := tb_4 (List.mem_of_getElem? (i := 102) rfl) rfl
theorem wd_935 : Cond.code yX4_spell cX4_spell 7 (Option.none : Option FieldType) ∈ tw_l := tb_4 (List.mem_of_getElem? (i := 103) rfl) rfl
theorem wd_936 : Cond.methodLink RX4 120 yX6_empty ∈ tw_l := tb_4 (List.mem_of_getElem? (i := 104) rfl) rfl
theorem wd_937 : Cond.instanceMethod yX6_empty ∈ tw_l := tb_4 (List.mem_of_getElem? (i := 105) rfl) rfl
theorem wd_938 : Cond.selects RX6 yX6_empty yX6_empty ∈ tw_l := tb_4 (List.mem_of_getElem? (i := 106) rfl) rfl
theorem wd_939 : Cond.code yX6_empty cX6_empty 1 (Option.none : Option FieldType) ∈ tw_l := tb_4 (List.mem_of_getElem? (i := 107) rfl) rfl
theorem wd_940 : Cond.methodLink RX4 125 yX6_add ∈ tw_l := tb_4 (List.mem_of_getElem? (i := 108) rfl) rfl
theorem wd_941 : Cond.instanceMethod yX6_add ∈ tw_l := tb_4 (List.mem_of_getElem? (i := 109) rfl) rfl
theorem wd_942 : Cond.selects RX6 yX6_add yX6_add ∈ tw_l := tb_4 (List.mem_of_getElem? (i := 110) rfl) rfl
theorem wd_943 : Cond.code yX6_add cX6_add 2 (some FieldType.boolean) ∈ tw_l := tb_4 (List.mem_of_getElem? (i := 111) rfl) rfl
theorem wd_944 : Cond.methodLink RL 121 yX11_type ∈ tw_l := tb_4 (List.mem_of_getElem? (i := 112) rfl) rfl
theorem wd_945 : Cond.instanceMethod yX11_type ∈ tw_l := tb_4 (List.mem_of_getElem? (i := 113) rfl) rfl
theorem wd_946 : Cond.selects RX11 yX11_type yX11_type ∈ tw_l := tb_4 (List.mem_of_getElem? (i := 114) rfl) rfl
theorem wd_947 : Cond.code yX11_type cX11_type 2 (some FieldType.int) ∈ tw_l := tb_4 (List.mem_of_getElem? (i := 115) rfl) rfl
theorem wd_948 : Cond.methodLink RX11 295 yX6_add ∈ tw_l := tb_4 (List.mem_of_getElem? (i := 116) rfl) rfl
theorem wd_949 : Cond.methodLink RL 125 yX11_clear ∈ tw_l := tb_4 (List.mem_of_getElem? (i := 117) rfl) rfl
theorem wd_950 : Cond.instanceMethod yX11_clear ∈ tw_l := tb_4 (List.mem_of_getElem? (i := 118) rfl) rfl
theorem wd_951 : Cond.selects RX11 yX11_clear yX11_clear ∈ tw_l := tb_4 (List.mem_of_getElem? (i := 119) rfl) rfl
theorem wd_952 : Cond.code yX11_clear cX11_clear 2 (some FieldType.int) ∈ tw_l := tb_4 (List.mem_of_getElem? (i := 120) rfl) rfl
theorem wd_953 : Cond.methodLink RX11 297 yX6_empty ∈ tw_l := tb_4 (List.mem_of_getElem? (i := 121) rfl) rfl
theorem wd_954 : Cond.methodLink RL 129 yX11_item ∈ tw_l := tb_4 (List.mem_of_getElem? (i := 122) rfl) rfl
theorem wd_955 : Cond.instanceMethod yX11_item ∈ tw_l := tb_4 (List.mem_of_getElem? (i := 123) rfl) rfl
theorem wd_956 : Cond.selects RX11 yX11_item yX11_item ∈ tw_l := tb_4 (List.mem_of_getElem? (i := 124) rfl) rfl
theorem wd_957 : Cond.code yX11_item cX11_item 2 (some FieldType.int) ∈ tw_l := tb_4 (List.mem_of_getElem? (i := 125) rfl) rfl
theorem wd_958 : Cond.methodLink RX11 298 yX6_has ∈ tw_l := tb_4 (List.mem_of_getElem? (i := 126) rfl) rfl
theorem wd_959 : Cond.instanceMethod yX6_has ∈ tw_l := tb_4 (List.mem_of_getElem? (i := 127) rfl) rfl
theorem wd_960 : Cond.selects RX6 yX6_has yX6_has ∈ tw_l := tb_4 (List.mem_of_getElem? (i := 128) rfl) rfl
theorem wd_961 : Cond.code yX6_has cX6_has 2 (some FieldType.boolean) ∈ tw_l := tb_4 (List.mem_of_getElem? (i := 129) rfl) rfl
theorem wd_962 : Cond.methodLink RL 133 yX11_ofGauss ∈ tw_l := tb_4 (List.mem_of_getElem? (i := 130) rfl) rfl
theorem wd_963 : Cond.instanceMethod yX11_ofGauss ∈ tw_l := tb_4 (List.mem_of_getElem? (i := 131) rfl) rfl
theorem wd_964 : Cond.selects RX11 yX11_ofGauss yX11_ofGauss ∈ tw_l := tb_4 (List.mem_of_getElem? (i := 132) rfl) rfl
theorem wd_965 : Cond.code yX11_ofGauss cX11_ofGauss 1 (some FieldType.int) ∈ tw_l := tb_4 (List.mem_of_getElem? (i := 133) rfl) rfl
theorem wd_966 : Cond.methodLink RX11 304 yX7_draw ∈ tw_l := tb_4 (List.mem_of_getElem? (i := 134) rfl) rfl
theorem wd_967 : Cond.instanceMethod yX7_draw ∈ tw_l := tb_4 (List.mem_of_getElem? (i := 135) rfl) rfl
theorem wd_968 : Cond.selects RX7 yX7_draw yX7_draw ∈ tw_l := tb_4 (List.mem_of_getElem? (i := 136) rfl) rfl
theorem wd_969 : Cond.code yX7_draw cX7_draw 7 (some FieldType.boolean) ∈ tw_l := tb_4 (List.mem_of_getElem? (i := 137) rfl) rfl
theorem wd_970 : Cond.methodLink RX7 82 yX7_countPasses ∈ tw_l := tb_4 (List.mem_of_getElem? (i := 138) rfl) rfl
theorem wd_971 : Cond.static yX7_countPasses ∈ tw_l := tb_4 (List.mem_of_getElem? (i := 139) rfl) rfl
theorem wd_972 : Cond.code yX7_countPasses cX7_countPasses 6 (some FieldType.int) ∈ tw_l := tb_4 (List.mem_of_getElem? (i := 140) rfl) rfl
theorem wd_973 : Cond.methodLink RX7 86 yX7_empty ∈ tw_l := tb_4 (List.mem_of_getElem? (i := 141) rfl) rfl
theorem wd_974 : Cond.methodLink RX7 97 yX7_closePiece ∈ tw_l := tb_4 (List.mem_of_getElem? (i := 142) rfl) rfl
theorem wd_976 : Cond.instanceMethod yX7_closePiece ∈ tw_l := tb_4 (List.mem_of_getElem? (i := 144) rfl) rfl
theorem wd_977 : Cond.code yX7_closePiece cX7_closePiece 5 (Option.none : Option FieldType) ∈ tw_l := tb_4 (List.mem_of_getElem? (i := 145) rfl) rfl
theorem wd_978 : Cond.methodLink RX7 108 yX7_entryOf ∈ tw_l := tb_4 (List.mem_of_getElem? (i := 146) rfl) rfl
theorem wd_979 : Cond.static yX7_entryOf ∈ tw_l := tb_4 (List.mem_of_getElem? (i := 147) rfl) rfl
theorem wd_980 : Cond.code yX7_entryOf cX7_entryOf 2 (some FieldType.int) ∈ tw_l := tb_4 (List.mem_of_getElem? (i := 148) rfl) rfl
theorem wd_981 : Cond.methodLink RX7 50 yX7_hasCrossing ∈ tw_l := tb_4 (List.mem_of_getElem? (i := 149) rfl) rfl
theorem wd_982 : Cond.methodLink RX7 101 yX6_holds ∈ tw_l := tb_4 (List.mem_of_getElem? (i := 150) rfl) rfl
theorem wd_983 : Cond.instanceMethod yX6_holds ∈ tw_l := tb_4 (List.mem_of_getElem? (i := 151) rfl) rfl
theorem wd_984 : Cond.selects RX6 yX6_holds yX6_holds ∈ tw_l := tb_4 (List.mem_of_getElem? (i := 152) rfl) rfl
theorem wd_985 : Cond.code yX6_holds cX6_holds 3 (some FieldType.boolean) ∈ tw_l := tb_4 (List.mem_of_getElem? (i := 153) rfl) rfl
theorem wd_986 : Cond.methodLink RX7 104 yX7_drawPass ∈ tw_l := tb_4 (List.mem_of_getElem? (i := 154) rfl) rfl
theorem wd_988 : Cond.instanceMethod yX7_drawPass ∈ tw_l := tb_4 (List.mem_of_getElem? (i := 156) rfl) rfl
theorem wd_989 : Cond.code yX7_drawPass cX7_drawPass 5 (some FieldType.boolean) ∈ tw_l := tb_4 (List.mem_of_getElem? (i := 157) rfl) rfl
theorem wd_990 : Cond.methodLink RL 137 yX11_move ∈ tw_l := tb_4 (List.mem_of_getElem? (i := 158) rfl) rfl
theorem wd_991 : Cond.instanceMethod yX11_move ∈ tw_l := tb_4 (List.mem_of_getElem? (i := 159) rfl) rfl
theorem wd_992 : Cond.selects RX11 yX11_move yX11_move ∈ tw_l := tb_4 (List.mem_of_getElem? (i := 160) rfl) rfl
theorem wd_993 : Cond.code yX11_move cX11_move 5 (some FieldType.int) ∈ tw_l := tb_4 (List.mem_of_getElem? (i := 161) rfl) rfl
theorem wd_994 : Cond.methodLink RX11 308 yX11_isKind ∈ tw_l := tb_4 (List.mem_of_getElem? (i := 162) rfl) rfl
theorem wd_995 : Cond.static yX11_isKind ∈ tw_l := tb_4 (List.mem_of_getElem? (i := 163) rfl) rfl
theorem wd_996 : Cond.code yX11_isKind cX11_isKind 1 (some FieldType.boolean) ∈ tw_l := tb_4 (List.mem_of_getElem? (i := 164) rfl) rfl
theorem wd_997 : Cond.instantiable RX5 4 ∈ tw_l := tb_4 (List.mem_of_getElem? (i := 165) rfl) rfl
theorem wd_998 : Cond.methodLink RX11 311 yX5_init ∈ tw_l := tb_4 (List.mem_of_getElem? (i := 166) rfl) rfl
theorem wd_999 : Cond.instanceMethod yX5_init ∈ tw_l := tb_4 (List.mem_of_getElem? (i := 167) rfl) rfl
theorem wd_1000 : Cond.code yX5_init cX5_init 5 (Option.none : Option FieldType) ∈ tw_l := tb_4 (List.mem_of_getElem? (i := 168) rfl) rfl
theorem wd_1001 : Cond.methodLink RX5 3 Lib.objectInit ∈ tw_l := tb_4 (List.mem_of_getElem? (i := 169) rfl) rfl
theorem wd_1002 : Cond.fieldLink RX5 9 RX5 "kind" "I" ∈ tw_l := tb_4 (List.mem_of_getElem? (i := 170) rfl) rfl
theorem wd_1003 : Cond.fieldLink RX5 15 RX5 "a" "I" ∈ tw_l := tb_4 (List.mem_of_getElem? (i := 171) rfl) rfl
theorem wd_1004 : Cond.fieldLink RX5 18 RX5 "b" "I" ∈ tw_l := tb_4 (List.mem_of_getElem? (i := 172) rfl) rfl
theorem wd_1005 : Cond.fieldLink RX5 21 RX5 "c" "I" ∈ tw_l := tb_4 (List.mem_of_getElem? (i := 173) rfl) rfl
theorem wd_1015 : Cond.methodLink RL 141 yX11_tells ∈ tw_l := tb_4 (List.mem_of_getElem? (i := 183) rfl) rfl
theorem wd_1016 : Cond.instanceMethod yX11_tells ∈ tw_l := tb_4 (List.mem_of_getElem? (i := 184) rfl) rfl
theorem wd_1017 : Cond.selects RX11 yX11_tells yX11_tells ∈ tw_l := tb_4 (List.mem_of_getElem? (i := 185) rfl) rfl
theorem wd_1018 : Cond.code yX11_tells cX11_tells 4 (some FieldType.int) ∈ tw_l := tb_4 (List.mem_of_getElem? (i := 186) rfl) rfl
theorem wd_1019 : Cond.methodLink RX11 313 yX11_hasMove ∈ tw_l := tb_4 (List.mem_of_getElem? (i := 187) rfl) rfl
theorem wd_1021 : Cond.instanceMethod yX11_hasMove ∈ tw_l := tb_4 (List.mem_of_getElem? (i := 189) rfl) rfl
theorem wd_1022 : Cond.code yX11_hasMove cX11_hasMove 2 (some FieldType.boolean) ∈ tw_l := tb_4 (List.mem_of_getElem? (i := 190) rfl) rfl
theorem wd_1023 : Cond.methodLink RX11 316 yX5_number ∈ tw_l := tb_4 (List.mem_of_getElem? (i := 191) rfl) rfl
theorem wd_1024 : Cond.instanceMethod yX5_number ∈ tw_l := tb_4 (List.mem_of_getElem? (i := 192) rfl) rfl
theorem wd_1025 : Cond.selects RX5 yX5_number yX5_number ∈ tw_l := tb_4 (List.mem_of_getElem? (i := 193) rfl) rfl
theorem wd_1026 : Cond.code yX5_number cX5_number 2 (some FieldType.int) ∈ tw_l := tb_4 (List.mem_of_getElem? (i := 194) rfl) rfl
theorem wd_1027 : Cond.methodLink RX11 319 yX5_growth ∈ tw_l := tb_4 (List.mem_of_getElem? (i := 195) rfl) rfl
theorem wd_1028 : Cond.instanceMethod yX5_growth ∈ tw_l := tb_4 (List.mem_of_getElem? (i := 196) rfl) rfl
theorem wd_1029 : Cond.selects RX5 yX5_growth yX5_growth ∈ tw_l := tb_4 (List.mem_of_getElem? (i := 197) rfl) rfl
theorem wd_1030 : Cond.code yX5_growth cX5_growth 2 (some FieldType.int) ∈ tw_l := tb_4 (List.mem_of_getElem? (i := 198) rfl) rfl
theorem wd_1031 : Cond.methodLink RX5 28 yX5_twistGrowth ∈ tw_l := tb_4 (List.mem_of_getElem? (i := 199) rfl) rfl
theorem wd_1032 : Cond.static yX5_twistGrowth ∈ tw_l := tb_4 (List.mem_of_getElem? (i := 200) rfl) rfl
theorem wd_1033 : Cond.code yX5_twistGrowth cX5_twistGrowth 1 (some FieldType.int) ∈ tw_l := tb_4 (List.mem_of_getElem? (i := 201) rfl) rfl
theorem wd_1034 : Cond.methodLink RX5 32 yX6_add ∈ tw_l := tb_4 (List.mem_of_getElem? (i := 202) rfl) rfl
theorem wd_1035 : Cond.methodLink RL 145 yX11_as ∈ tw_l := tb_4 (List.mem_of_getElem? (i := 203) rfl) rfl
theorem wd_1036 : Cond.instanceMethod yX11_as ∈ tw_l := tb_4 (List.mem_of_getElem? (i := 204) rfl) rfl
theorem wd_1037 : Cond.selects RX11 yX11_as yX11_as ∈ tw_l := tb_4 (List.mem_of_getElem? (i := 205) rfl) rfl
theorem wd_1038 : Cond.code yX11_as cX11_as 3 (some FieldType.int) ∈ tw_l := tb_4 (List.mem_of_getElem? (i := 206) rfl) rfl
theorem wd_1039 : Cond.methodLink RX11 323 yX5_isA ∈ tw_l := tb_4 (List.mem_of_getElem? (i := 207) rfl) rfl
theorem wd_1040 : Cond.instanceMethod yX5_isA ∈ tw_l := tb_4 (List.mem_of_getElem? (i := 208) rfl) rfl
theorem wd_1041 : Cond.selects RX5 yX5_isA yX5_isA ∈ tw_l := tb_4 (List.mem_of_getElem? (i := 209) rfl) rfl
theorem wd_1042 : Cond.code yX5_isA cX5_isA 2 (some FieldType.boolean) ∈ tw_l := tb_4 (List.mem_of_getElem? (i := 210) rfl) rfl
theorem wd_1043 : Cond.fieldLink RX5 24 RX5 "PARENTS" "[I" ∈ tw_l := tb_4 (List.mem_of_getElem? (i := 211) rfl) rfl
theorem wd_1045 : Cond.methodLink RL 149 yX11_may ∈ tw_l := tb_4 (List.mem_of_getElem? (i := 213) rfl) rfl
theorem wd_1046 : Cond.instanceMethod yX11_may ∈ tw_l := tb_4 (List.mem_of_getElem? (i := 214) rfl) rfl
theorem wd_1047 : Cond.selects RX11 yX11_may yX11_may ∈ tw_l := tb_4 (List.mem_of_getElem? (i := 215) rfl) rfl
theorem wd_1048 : Cond.code yX11_may cX11_may 4 (some FieldType.int) ∈ tw_l := tb_4 (List.mem_of_getElem? (i := 216) rfl) rfl
theorem wd_1049 : Cond.methodLink RX11 336 yX11_tryMove ∈ tw_l := tb_4 (List.mem_of_getElem? (i := 217) rfl) rfl
theorem wd_1051 : Cond.instanceMethod yX11_tryMove ∈ tw_l := tb_4 (List.mem_of_getElem? (i := 219) rfl) rfl
theorem wd_1052 : Cond.code yX11_tryMove cX11_tryMove 3 (some FieldType.int) ∈ tw_l := tb_4 (List.mem_of_getElem? (i := 220) rfl) rfl
theorem wd_1053 : Cond.methodLink RX11 326 yX5_applyTo ∈ tw_l := tb_4 (List.mem_of_getElem? (i := 221) rfl) rfl
theorem wd_1054 : Cond.instanceMethod yX5_applyTo ∈ tw_l := tb_4 (List.mem_of_getElem? (i := 222) rfl) rfl
theorem wd_1055 : Cond.selects RX5 yX5_applyTo yX5_applyTo ∈ tw_l := tb_4 (List.mem_of_getElem? (i := 223) rfl) rfl
theorem wd_1056 : Cond.code yX5_applyTo cX5_applyTo 3 (some FieldType.int) ∈ tw_l := tb_4 (List.mem_of_getElem? (i := 224) rfl) rfl
theorem wd_1057 : Cond.methodLink RX5 38 yX5_twist ∈ tw_l := tb_4 (List.mem_of_getElem? (i := 225) rfl) rfl
theorem wd_1059 : Cond.instanceMethod yX5_twist ∈ tw_l := tb_4 (List.mem_of_getElem? (i := 227) rfl) rfl
theorem wd_1060 : Cond.code yX5_twist cX5_twist 7 (some FieldType.int) ∈ tw_l := tb_4 (List.mem_of_getElem? (i := 228) rfl) rfl
theorem wd_1061 : Cond.methodLink RX5 85 yX4_hasEnd ∈ tw_l := tb_4 (List.mem_of_getElem? (i := 229) rfl) rfl
theorem wd_1062 : Cond.methodLink RX5 93 yX7_freeArc ∈ tw_l := tb_4 (List.mem_of_getElem? (i := 230) rfl) rfl
theorem wd_1063 : Cond.methodLink RX5 97 yX5_addKink ∈ tw_l := tb_4 (List.mem_of_getElem? (i := 231) rfl) rfl
theorem wd_1065 : Cond.instanceMethod yX5_addKink ∈ tw_l := tb_4 (List.mem_of_getElem? (i := 233) rfl) rfl
theorem wd_1066 : Cond.code yX5_addKink cX5_addKink 5 (Option.none : Option FieldType) ∈ tw_l := tb_4 (List.mem_of_getElem? (i := 234) rfl) rfl
theorem wd_1067 : Cond.methodLink RX5 107 yX7_add ∈ tw_l := tb_4 (List.mem_of_getElem? (i := 235) rfl) rfl
theorem wd_1068 : Cond.methodLink RX5 42 yX5_poke ∈ tw_l := tb_4 (List.mem_of_getElem? (i := 236) rfl) rfl
theorem wd_1070 : Cond.instanceMethod yX5_poke ∈ tw_l := tb_4 (List.mem_of_getElem? (i := 238) rfl) rfl
theorem wd_1071 : Cond.code yX5_poke cX5_poke 9 (some FieldType.int) ∈ tw_l := tb_4 (List.mem_of_getElem? (i := 239) rfl) rfl
theorem wd_1072 : Cond.methodLink RX5 45 yX5_slide ∈ tw_l := tb_5 (List.mem_of_getElem? (i := 0) rfl) rfl
theorem wd_1073 : Cond.static yX5_slide ∈ tw_l := tb_5 (List.mem_of_getElem? (i := 1) rfl) rfl
theorem wd_1074 : Cond.code yX5_slide cX5_slide 11 (some FieldType.int) ∈ tw_l := tb_5 (List.mem_of_getElem? (i := 2) rfl) rfl
theorem wd_1075 : Cond.methodLink RX5 77 yX5_isTriangle ∈ tw_l := tb_5 (List.mem_of_getElem? (i := 3) rfl) rfl
theorem wd_1076 : Cond.static yX5_isTriangle ∈ tw_l := tb_5 (List.mem_of_getElem? (i := 4) rfl) rfl
theorem wd_1077 : Cond.code yX5_isTriangle cX5_isTriangle 4 (some FieldType.boolean) ∈ tw_l := tb_5 (List.mem_of_getElem? (i := 5) rfl) rfl
theorem wd_1078 : Cond.methodLink RX5 124 yX4_nextInRegion ∈ tw_l := tb_5 (List.mem_of_getElem? (i := 6) rfl) rfl
theorem wd_1079 : Cond.instanceMethod yX4_nextInRegion ∈ tw_l := tb_5 (List.mem_of_getElem? (i := 7) rfl) rfl
theorem wd_1080 : Cond.selects RX4 yX4_nextInRegion yX4_nextInRegion ∈ tw_l := tb_5 (List.mem_of_getElem? (i := 8) rfl) rfl
theorem wd_1081 : Cond.code yX4_nextInRegion cX4_nextInRegion 2 (some FieldType.int) ∈ tw_l := tb_5 (List.mem_of_getElem? (i := 9) rfl) rfl
theorem wd_1082 : Cond.methodLink RX5 135 yX5_isOver ∈ tw_l := tb_5 (List.mem_of_getElem? (i := 10) rfl) rfl
theorem wd_1083 : Cond.static yX5_isOver ∈ tw_l := tb_5 (List.mem_of_getElem? (i := 11) rfl) rfl
theorem wd_1084 : Cond.code yX5_isOver cX5_isOver 2 (some FieldType.boolean) ∈ tw_l := tb_5 (List.mem_of_getElem? (i := 12) rfl) rfl
theorem wd_1085 : Cond.methodLinkNest RX5 66 yX11_corner RX11 ∈ tw_l := tb_5 (List.mem_of_getElem? (i := 13) rfl) rfl
theorem wd_1086 : Cond.methodLink RX5 138 yX5_slideArc ∈ tw_l := tb_5 (List.mem_of_getElem? (i := 14) rfl) rfl
theorem wd_1087 : Cond.static yX5_slideArc ∈ tw_l := tb_5 (List.mem_of_getElem? (i := 15) rfl) rfl
theorem wd_1088 : Cond.code yX5_slideArc cX5_slideArc 6 (Option.none : Option FieldType) ∈ tw_l := tb_5 (List.mem_of_getElem? (i := 16) rfl) rfl
theorem wd_1089 : Cond.methodLink RX5 49 yX5_flype ∈ tw_l := tb_5 (List.mem_of_getElem? (i := 17) rfl) rfl
theorem wd_1091 : Cond.instanceMethod yX5_flype ∈ tw_l := tb_5 (List.mem_of_getElem? (i := 19) rfl) rfl
theorem wd_1092 : Cond.code yX5_flype cX5_flype 9 (some FieldType.int) ∈ tw_l := tb_5 (List.mem_of_getElem? (i := 20) rfl) rfl
theorem wd_1093 : Cond.methodLink RX5 147 yX5_areThere ∈ tw_l := tb_5 (List.mem_of_getElem? (i := 21) rfl) rfl
theorem wd_1094 : Cond.static yX5_areThere ∈ tw_l := tb_5 (List.mem_of_getElem? (i := 22) rfl) rfl
theorem wd_1095 : Cond.code yX5_areThere cX5_areThere 2 (some FieldType.boolean) ∈ tw_l := tb_5 (List.mem_of_getElem? (i := 23) rfl) rfl
theorem wd_1096 : Cond.methodLink RX5 143 yX5_isIn ∈ tw_l := tb_5 (List.mem_of_getElem? (i := 24) rfl) rfl
theorem wd_1097 : Cond.static yX5_isIn ∈ tw_l := tb_5 (List.mem_of_getElem? (i := 25) rfl) rfl
theorem wd_1098 : Cond.code yX5_isIn cX5_isIn 3 (some FieldType.boolean) ∈ tw_l := tb_5 (List.mem_of_getElem? (i := 26) rfl) rfl
theorem wd_1099 : Cond.methodLink RX5 150 yX5_countWaysOut ∈ tw_l := tb_5 (List.mem_of_getElem? (i := 27) rfl) rfl
theorem wd_1100 : Cond.static yX5_countWaysOut ∈ tw_l := tb_5 (List.mem_of_getElem? (i := 28) rfl) rfl
theorem wd_1101 : Cond.code yX5_countWaysOut cX5_countWaysOut 4 (some FieldType.int) ∈ tw_l := tb_5 (List.mem_of_getElem? (i := 29) rfl) rfl
theorem wd_1102 : Cond.methodLink RX5 154 yX5_wayOut ∈ tw_l := tb_5 (List.mem_of_getElem? (i := 30) rfl) rfl
theorem wd_1103 : Cond.static yX5_wayOut ∈ tw_l := tb_5 (List.mem_of_getElem? (i := 31) rfl) rfl
theorem wd_1104 : Cond.code yX5_wayOut cX5_wayOut 6 (some FieldType.int) ∈ tw_l := tb_5 (List.mem_of_getElem? (i := 32) rfl) rfl
theorem wd_1105 : Cond.methodLink RX5 158 yX5_passOver ∈ tw_l := tb_5 (List.mem_of_getElem? (i := 33) rfl) rfl
theorem wd_1106 : Cond.static yX5_passOver ∈ tw_l := tb_5 (List.mem_of_getElem? (i := 34) rfl) rfl
theorem wd_1107 : Cond.code yX5_passOver cX5_passOver 13 (Option.none : Option FieldType) ∈ tw_l := tb_5 (List.mem_of_getElem? (i := 35) rfl) rfl
theorem wd_1108 : Cond.methodLink RX5 162 yX7_flip ∈ tw_l := tb_5 (List.mem_of_getElem? (i := 36) rfl) rfl
theorem wd_1109 : Cond.methodLink RX5 52 yX5_smooth ∈ tw_l := tb_5 (List.mem_of_getElem? (i := 37) rfl) rfl
theorem wd_1111 : Cond.instanceMethod yX5_smooth ∈ tw_l := tb_5 (List.mem_of_getElem? (i := 39) rfl) rfl
theorem wd_1112 : Cond.code yX5_smooth cX5_smooth 3 (some FieldType.int) ∈ tw_l := tb_5 (List.mem_of_getElem? (i := 40) rfl) rfl
theorem wd_1113 : Cond.methodLink RX5 165 yX7_hasCrossing ∈ tw_l := tb_5 (List.mem_of_getElem? (i := 41) rfl) rfl
theorem wd_1114 : Cond.methodLink RX5 113 yX7_fuse ∈ tw_l := tb_5 (List.mem_of_getElem? (i := 42) rfl) rfl
theorem wd_1115 : Cond.instanceMethod yX7_fuse ∈ tw_l := tb_5 (List.mem_of_getElem? (i := 43) rfl) rfl
theorem wd_1116 : Cond.selects RX7 yX7_fuse yX7_fuse ∈ tw_l := tb_5 (List.mem_of_getElem? (i := 44) rfl) rfl
theorem wd_1117 : Cond.code yX7_fuse cX7_fuse 4 (Option.none : Option FieldType) ∈ tw_l := tb_5 (List.mem_of_getElem? (i := 45) rfl) rfl
theorem wd_1118 : Cond.methodLink RX5 117 yX7_remove ∈ tw_l := tb_5 (List.mem_of_getElem? (i := 46) rfl) rfl
theorem wd_1119 : Cond.instanceMethod yX7_remove ∈ tw_l := tb_5 (List.mem_of_getElem? (i := 47) rfl) rfl
theorem wd_1120 : Cond.selects RX7 yX7_remove yX7_remove ∈ tw_l := tb_5 (List.mem_of_getElem? (i := 48) rfl) rfl
theorem wd_1121 : Cond.code yX7_remove cX7_remove 3 (Option.none : Option FieldType) ∈ tw_l := tb_5 (List.mem_of_getElem? (i := 49) rfl) rfl
theorem wd_1122 : Cond.methodLink RX5 121 yX5_loopsAnswer ∈ tw_l := tb_5 (List.mem_of_getElem? (i := 50) rfl) rfl
theorem wd_1123 : Cond.static yX5_loopsAnswer ∈ tw_l := tb_5 (List.mem_of_getElem? (i := 51) rfl) rfl
theorem wd_1124 : Cond.code yX5_loopsAnswer cX5_loopsAnswer 1 (some FieldType.int) ∈ tw_l := tb_5 (List.mem_of_getElem? (i := 52) rfl) rfl
theorem wd_1125 : Cond.methodLink RX5 56 yX5_change ∈ tw_l := tb_5 (List.mem_of_getElem? (i := 53) rfl) rfl
theorem wd_1127 : Cond.instanceMethod yX5_change ∈ tw_l := tb_5 (List.mem_of_getElem? (i := 55) rfl) rfl
theorem wd_1128 : Cond.code yX5_change cX5_change 3 (some FieldType.int) ∈ tw_l := tb_5 (List.mem_of_getElem? (i := 56) rfl) rfl
theorem wd_1129 : Cond.methodLink RX5 168 yX7_rotate ∈ tw_l := tb_5 (List.mem_of_getElem? (i := 57) rfl) rfl
theorem wd_1130 : Cond.methodLink RL 153 yX11_does ∈ tw_l := tb_5 (List.mem_of_getElem? (i := 58) rfl) rfl
theorem wd_1131 : Cond.instanceMethod yX11_does ∈ tw_l := tb_5 (List.mem_of_getElem? (i := 59) rfl) rfl
theorem wd_1132 : Cond.selects RX11 yX11_does yX11_does ∈ tw_l := tb_5 (List.mem_of_getElem? (i := 60) rfl) rfl
theorem wd_1133 : Cond.code yX11_does cX11_does 3 (some FieldType.int) ∈ tw_l := tb_5 (List.mem_of_getElem? (i := 61) rfl) rfl
theorem wd_1134 : Cond.methodLink RX11 339 yX11_settle ∈ tw_l := tb_5 (List.mem_of_getElem? (i := 62) rfl) rfl
theorem wd_1136 : Cond.instanceMethod yX11_settle ∈ tw_l := tb_5 (List.mem_of_getElem? (i := 64) rfl) rfl
theorem wd_1137 : Cond.code yX11_settle cX11_settle 3 (some FieldType.int) ∈ tw_l := tb_5 (List.mem_of_getElem? (i := 65) rfl) rfl
theorem wd_1138 : Cond.methodLink RL 157 yX11_undoes ∈ tw_l := tb_5 (List.mem_of_getElem? (i := 66) rfl) rfl
theorem wd_1139 : Cond.instanceMethod yX11_undoes ∈ tw_l := tb_5 (List.mem_of_getElem? (i := 67) rfl) rfl
theorem wd_1140 : Cond.selects RX11 yX11_undoes yX11_undoes ∈ tw_l := tb_5 (List.mem_of_getElem? (i := 68) rfl) rfl
theorem wd_1141 : Cond.code yX11_undoes cX11_undoes 3 (some FieldType.int) ∈ tw_l := tb_5 (List.mem_of_getElem? (i := 69) rfl) rfl
theorem wd_1142 : Cond.methodLink RX11 342 yX11_tryUndoing ∈ tw_l := tb_5 (List.mem_of_getElem? (i := 70) rfl) rfl
theorem wd_1144 : Cond.instanceMethod yX11_tryUndoing ∈ tw_l := tb_5 (List.mem_of_getElem? (i := 72) rfl) rfl
theorem wd_1145 : Cond.code yX11_tryUndoing cX11_tryUndoing 3 (some FieldType.int) ∈ tw_l := tb_5 (List.mem_of_getElem? (i := 73) rfl) rfl
theorem wd_1146 : Cond.methodLink RX11 330 yX5_canBeUndone ∈ tw_l := tb_5 (List.mem_of_getElem? (i := 74) rfl) rfl
theorem wd_1147 : Cond.instanceMethod yX5_canBeUndone ∈ tw_l := tb_5 (List.mem_of_getElem? (i := 75) rfl) rfl
theorem wd_1148 : Cond.selects RX5 yX5_canBeUndone yX5_canBeUndone ∈ tw_l := tb_5 (List.mem_of_getElem? (i := 76) rfl) rfl
theorem wd_1149 : Cond.code yX5_canBeUndone cX5_canBeUndone 1 (some FieldType.boolean) ∈ tw_l := tb_5 (List.mem_of_getElem? (i := 77) rfl) rfl
theorem wd_1150 : Cond.methodLink RX11 333 yX5_withdrawFrom ∈ tw_l := tb_5 (List.mem_of_getElem? (i := 78) rfl) rfl
theorem wd_1151 : Cond.instanceMethod yX5_withdrawFrom ∈ tw_l := tb_5 (List.mem_of_getElem? (i := 79) rfl) rfl
theorem wd_1152 : Cond.selects RX5 yX5_withdrawFrom yX5_withdrawFrom ∈ tw_l := tb_5 (List.mem_of_getElem? (i := 80) rfl) rfl
theorem wd_1153 : Cond.code yX5_withdrawFrom cX5_withdrawFrom 3 (some FieldType.int) ∈ tw_l := tb_5 (List.mem_of_getElem? (i := 81) rfl) rfl
theorem wd_1154 : Cond.methodLink RX5 60 yX5_untwist ∈ tw_l := tb_5 (List.mem_of_getElem? (i := 82) rfl) rfl
theorem wd_1155 : Cond.static yX5_untwist ∈ tw_l := tb_5 (List.mem_of_getElem? (i := 83) rfl) rfl
theorem wd_1156 : Cond.code yX5_untwist cX5_untwist 3 (some FieldType.int) ∈ tw_l := tb_5 (List.mem_of_getElem? (i := 84) rfl) rfl
theorem wd_1157 : Cond.methodLink RX5 70 yX5_isKink ∈ tw_l := tb_5 (List.mem_of_getElem? (i := 85) rfl) rfl
theorem wd_1158 : Cond.static yX5_isKink ∈ tw_l := tb_5 (List.mem_of_getElem? (i := 86) rfl) rfl
theorem wd_1159 : Cond.code yX5_isKink cX5_isKink 2 (some FieldType.boolean) ∈ tw_l := tb_5 (List.mem_of_getElem? (i := 87) rfl) rfl
theorem wd_1160 : Cond.methodLink RX5 63 yX5_unpoke ∈ tw_l := tb_5 (List.mem_of_getElem? (i := 88) rfl) rfl
theorem wd_1161 : Cond.static yX5_unpoke ∈ tw_l := tb_5 (List.mem_of_getElem? (i := 89) rfl) rfl
theorem wd_1162 : Cond.code yX5_unpoke cX5_unpoke 4 (some FieldType.int) ∈ tw_l := tb_5 (List.mem_of_getElem? (i := 90) rfl) rfl
theorem wd_1163 : Cond.methodLink RX5 74 yX5_isLens ∈ tw_l := tb_5 (List.mem_of_getElem? (i := 91) rfl) rfl
theorem wd_1164 : Cond.static yX5_isLens ∈ tw_l := tb_5 (List.mem_of_getElem? (i := 92) rfl) rfl
theorem wd_1165 : Cond.code yX5_isLens cX5_isLens 4 (some FieldType.boolean) ∈ tw_l := tb_5 (List.mem_of_getElem? (i := 93) rfl) rfl
theorem wd_1166 : Cond.methodLink RX5 127 yJ9_max_7cf53 ∈ tw_l := tb_5 (List.mem_of_getElem? (i := 94) rfl) rfl
theorem wd_1167 : Cond.methodLink RX5 132 yJ9_min_7cf53 ∈ tw_l := tb_5 (List.mem_of_getElem? (i := 95) rfl) rfl
theorem wd_1168 : Cond.methodLink RL 161 yX11_trace ∈ tw_l := tb_5 (List.mem_of_getElem? (i := 96) rfl) rfl
theorem wd_1169 : Cond.instanceMethod yX11_trace ∈ tw_l := tb_5 (List.mem_of_getElem? (i := 97) rfl) rfl
theorem wd_1170 : Cond.selects RX11 yX11_trace yX11_trace ∈ tw_l := tb_5 (List.mem_of_getElem? (i := 98) rfl) rfl
theorem wd_1171 : Cond.code yX11_trace cX11_trace 2 (some FieldType.int) ∈ tw_l := tb_5 (List.mem_of_getElem? (i := 99) rfl) rfl
theorem wd_1172 : Cond.methodLink RL 165 yX11_like ∈ tw_l := tb_5 (List.mem_of_getElem? (i := 100) rfl) rfl
theorem wd_1173 : Cond.instanceMethod yX11_like ∈ tw_l := tb_5 (List.mem_of_getElem? (i := 101) rfl) rfl
theorem wd_1174 : Cond.selects RX11 yX11_like yX11_like ∈ tw_l := tb_5 (List.mem_of_getElem? (i := 102) rfl) rfl
theorem wd_1175 : Cond.code yX11_like cX11_like 3 (some FieldType.int) ∈ tw_l := tb_5 (List.mem_of_getElem? (i := 103) rfl) rfl
theorem wd_1176 : Cond.methodLink RX11 349 yX3_holds ∈ tw_l := tb_5 (List.mem_of_getElem? (i := 104) rfl) rfl
theorem wd_1177 : Cond.instanceMethod yX3_holds ∈ tw_l := tb_5 (List.mem_of_getElem? (i := 105) rfl) rfl
theorem wd_1178 : Cond.selects RX3 yX3_holds yX3_holds ∈ tw_l := tb_5 (List.mem_of_getElem? (i := 106) rfl) rfl
theorem wd_1179 : Cond.code yX3_holds cX3_holds 5 (some FieldType.boolean) ∈ tw_l := tb_5 (List.mem_of_getElem? (i := 107) rfl) rfl
theorem wd_1180 : Cond.methodLink RX3 21 yJ7_fill_53178 ∈ tw_l := tb_5 (List.mem_of_getElem? (i := 108) rfl) rfl
theorem wd_1181 : Cond.methodLink RX3 27 yX3_findsPart ∈ tw_l := tb_5 (List.mem_of_getElem? (i := 109) rfl) rfl
theorem wd_1183 : Cond.instanceMethod yX3_findsPart ∈ tw_l := tb_5 (List.mem_of_getElem? (i := 111) rfl) rfl
theorem wd_1184 : Cond.code yX3_findsPart cX3_findsPart 6 (some FieldType.boolean) ∈ tw_l := tb_5 (List.mem_of_getElem? (i := 112) rfl) rfl
theorem wd_1185 : Cond.methodLink RX3 35 yX3_assign ∈ tw_l := tb_5 (List.mem_of_getElem? (i := 113) rfl) rfl
theorem wd_1187 : Cond.instanceMethod yX3_assign ∈ tw_l := tb_5 (List.mem_of_getElem? (i := 115) rfl) rfl
theorem wd_1188 : Cond.code yX3_assign cX3_assign 3 (Option.none : Option FieldType) ∈ tw_l := tb_5 (List.mem_of_getElem? (i := 116) rfl) rfl
theorem wd_1189 : Cond.methodLink RX3 39 yX3_spreads ∈ tw_l := tb_5 (List.mem_of_getElem? (i := 117) rfl) rfl
theorem wd_1191 : Cond.instanceMethod yX3_spreads ∈ tw_l := tb_5 (List.mem_of_getElem? (i := 119) rfl) rfl
theorem wd_1192 : Cond.code yX3_spreads cX3_spreads 10 (some FieldType.boolean) ∈ tw_l := tb_5 (List.mem_of_getElem? (i := 120) rfl) rfl
theorem wd_1193 : Cond.methodLinkNest RX3 46 yX11_corner RX11 ∈ tw_l := tb_5 (List.mem_of_getElem? (i := 121) rfl) rfl
theorem wd_1194 : Cond.methodLink RX3 43 yX3_withdraw ∈ tw_l := tb_5 (List.mem_of_getElem? (i := 122) rfl) rfl
theorem wd_1196 : Cond.instanceMethod yX3_withdraw ∈ tw_l := tb_5 (List.mem_of_getElem? (i := 124) rfl) rfl
theorem wd_1197 : Cond.code yX3_withdraw cX3_withdraw 3 (Option.none : Option FieldType) ∈ tw_l := tb_5 (List.mem_of_getElem? (i := 125) rfl) rfl
theorem wd_1198 : Cond.methodLink RL 169 yX11_search ∈ tw_l := tb_5 (List.mem_of_getElem? (i := 126) rfl) rfl
theorem wd_1199 : Cond.instanceMethod yX11_search ∈ tw_l := tb_5 (List.mem_of_getElem? (i := 127) rfl) rfl
theorem wd_1200 : Cond.selects RX11 yX11_search yX11_search ∈ tw_l := tb_5 (List.mem_of_getElem? (i := 128) rfl) rfl
theorem wd_1201 : Cond.code yX11_search cX11_search 3 (some FieldType.int) ∈ tw_l := tb_5 (List.mem_of_getElem? (i := 129) rfl) rfl
theorem wd_1202 : Cond.methodLink RX11 355 yX11_isStepCount ∈ tw_l := tb_5 (List.mem_of_getElem? (i := 130) rfl) rfl
theorem wd_1203 : Cond.static yX11_isStepCount ∈ tw_l := tb_5 (List.mem_of_getElem? (i := 131) rfl) rfl
theorem wd_1204 : Cond.code yX11_isStepCount cX11_isStepCount 1 (some FieldType.boolean) ∈ tw_l := tb_5 (List.mem_of_getElem? (i := 132) rfl) rfl
theorem wd_1205 : Cond.methodLink RX11 358 yX8_begin ∈ tw_l := tb_5 (List.mem_of_getElem? (i := 133) rfl) rfl
theorem wd_1206 : Cond.instanceMethod yX8_begin ∈ tw_l := tb_5 (List.mem_of_getElem? (i := 134) rfl) rfl
theorem wd_1207 : Cond.selects RX8 yX8_begin yX8_begin ∈ tw_l := tb_5 (List.mem_of_getElem? (i := 135) rfl) rfl
theorem wd_1208 : Cond.code yX8_begin cX8_begin 2 (Option.none : Option FieldType) ∈ tw_l := tb_5 (List.mem_of_getElem? (i := 136) rfl) rfl
theorem wd_1209 : Cond.methodLink RX8 78 yX7_take ∈ tw_l := tb_5 (List.mem_of_getElem? (i := 137) rfl) rfl
theorem wd_1210 : Cond.methodLink RX8 82 yX8_keep ∈ tw_l := tb_5 (List.mem_of_getElem? (i := 138) rfl) rfl
theorem wd_1212 : Cond.instanceMethod yX8_keep ∈ tw_l := tb_5 (List.mem_of_getElem? (i := 140) rfl) rfl
theorem wd_1213 : Cond.code yX8_keep cX8_keep 5 (Option.none : Option FieldType) ∈ tw_l := tb_5 (List.mem_of_getElem? (i := 141) rfl) rfl
theorem wd_1214 : Cond.methodLink RX8 92 yX4_pairUp ∈ tw_l := tb_5 (List.mem_of_getElem? (i := 142) rfl) rfl
theorem wd_1215 : Cond.methodLink RX8 95 yX4_findRegions ∈ tw_l := tb_5 (List.mem_of_getElem? (i := 143) rfl) rfl
theorem wd_1216 : Cond.methodLink RX8 98 yX10_hold ∈ tw_l := tb_5 (List.mem_of_getElem? (i := 144) rfl) rfl
theorem wd_1217 : Cond.instanceMethod yX10_hold ∈ tw_l := tb_5 (List.mem_of_getElem? (i := 145) rfl) rfl
theorem wd_1218 : Cond.selects RX10 yX10_hold yX10_hold ∈ tw_l := tb_5 (List.mem_of_getElem? (i := 146) rfl) rfl
theorem wd_1219 : Cond.code yX10_hold cX10_hold 3 (Option.none : Option FieldType) ∈ tw_l := tb_5 (List.mem_of_getElem? (i := 147) rfl) rfl
theorem wd_1220 : Cond.methodLink RX10 24 yJ9_min_7cf53 ∈ tw_l := tb_5 (List.mem_of_getElem? (i := 148) rfl) rfl
theorem wd_1221 : Cond.methodLink RX10 35 yX4_likenessMark ∈ tw_l := tb_5 (List.mem_of_getElem? (i := 149) rfl) rfl
theorem wd_1222 : Cond.instanceMethod yX4_likenessMark ∈ tw_l := tb_5 (List.mem_of_getElem? (i := 150) rfl) rfl
theorem wd_1223 : Cond.selects RX4 yX4_likenessMark yX4_likenessMark ∈ tw_l := tb_5 (List.mem_of_getElem? (i := 151) rfl) rfl
theorem wd_1224 : Cond.code yX4_likenessMark cX4_likenessMark 4 (some FieldType.int) ∈ tw_l := tb_5 (List.mem_of_getElem? (i := 152) rfl) rfl
theorem wd_1225 : Cond.methodLink RX10 45 arraycopyName ∈ tw_l := tb_5 (List.mem_of_getElem? (i := 153) rfl) rfl
theorem wd_1226 : Cond.methodLink RX8 102 yX10_sharesMark ∈ tw_l := tb_5 (List.mem_of_getElem? (i := 154) rfl) rfl
theorem wd_1227 : Cond.instanceMethod yX10_sharesMark ∈ tw_l := tb_5 (List.mem_of_getElem? (i := 155) rfl) rfl
theorem wd_1228 : Cond.selects RX10 yX10_sharesMark yX10_sharesMark ∈ tw_l := tb_5 (List.mem_of_getElem? (i := 156) rfl) rfl
theorem wd_1229 : Cond.code yX10_sharesMark cX10_sharesMark 2 (some FieldType.boolean) ∈ tw_l := tb_5 (List.mem_of_getElem? (i := 157) rfl) rfl
theorem wd_1230 : Cond.methodLink RX8 111 yX3_holds ∈ tw_l := tb_5 (List.mem_of_getElem? (i := 158) rfl) rfl
theorem wd_1231 : Cond.methodLink RX8 86 yX8_enter ∈ tw_l := tb_5 (List.mem_of_getElem? (i := 159) rfl) rfl
theorem wd_1233 : Cond.instanceMethod yX8_enter ∈ tw_l := tb_5 (List.mem_of_getElem? (i := 161) rfl) rfl
theorem wd_1234 : Cond.code yX8_enter cX8_enter 2 (Option.none : Option FieldType) ∈ tw_l := tb_5 (List.mem_of_getElem? (i := 162) rfl) rfl
theorem wd_1235 : Cond.methodLink RX8 138 yX10_pourInto ∈ tw_l := tb_5 (List.mem_of_getElem? (i := 163) rfl) rfl
theorem wd_1236 : Cond.instanceMethod yX10_pourInto ∈ tw_l := tb_5 (List.mem_of_getElem? (i := 164) rfl) rfl
theorem wd_1237 : Cond.selects RX10 yX10_pourInto yX10_pourInto ∈ tw_l := tb_5 (List.mem_of_getElem? (i := 165) rfl) rfl
theorem wd_1238 : Cond.code yX10_pourInto cX10_pourInto 3 (Option.none : Option FieldType) ∈ tw_l := tb_5 (List.mem_of_getElem? (i := 166) rfl) rfl
theorem wd_1239 : Cond.methodLink RX10 54 yX7_empty ∈ tw_l := tb_5 (List.mem_of_getElem? (i := 167) rfl) rfl
theorem wd_1240 : Cond.methodLink RX10 57 yX7_add ∈ tw_l := tb_5 (List.mem_of_getElem? (i := 168) rfl) rfl
theorem wd_1241 : Cond.methodLink RX11 361 yX8_go ∈ tw_l := tb_5 (List.mem_of_getElem? (i := 169) rfl) rfl
theorem wd_1242 : Cond.instanceMethod yX8_go ∈ tw_l := tb_5 (List.mem_of_getElem? (i := 170) rfl) rfl
theorem wd_1243 : Cond.selects RX8 yX8_go yX8_go ∈ tw_l := tb_5 (List.mem_of_getElem? (i := 171) rfl) rfl
theorem wd_1244 : Cond.code yX8_go cX8_go 5 (some FieldType.int) ∈ tw_l := tb_5 (List.mem_of_getElem? (i := 172) rfl) rfl
theorem wd_1245 : Cond.methodLink RX8 121 yX8_enterNext ∈ tw_l := tb_5 (List.mem_of_getElem? (i := 173) rfl) rfl
theorem wd_1247 : Cond.instanceMethod yX8_enterNext ∈ tw_l := tb_5 (List.mem_of_getElem? (i := 175) rfl) rfl
theorem wd_1248 : Cond.code yX8_enterNext cX8_enterNext 1 (some FieldType.boolean) ∈ tw_l := tb_5 (List.mem_of_getElem? (i := 176) rfl) rfl
theorem wd_1249 : Cond.methodLink RX8 125 yX5_seemsOpen ∈ tw_l := tb_5 (List.mem_of_getElem? (i := 177) rfl) rfl
theorem wd_1250 : Cond.static yX5_seemsOpen ∈ tw_l := tb_5 (List.mem_of_getElem? (i := 178) rfl) rfl
theorem wd_1251 : Cond.code yX5_seemsOpen cX5_seemsOpen 3 (some FieldType.boolean) ∈ tw_l := tb_5 (List.mem_of_getElem? (i := 179) rfl) rfl
theorem wd_1252 : Cond.methodLink RX8 131 yX5_takeStep ∈ tw_l := tb_5 (List.mem_of_getElem? (i := 180) rfl) rfl
theorem wd_1253 : Cond.static yX5_takeStep ∈ tw_l := tb_5 (List.mem_of_getElem? (i := 181) rfl) rfl
theorem wd_1254 : Cond.code yX5_takeStep cX5_takeStep 4 (some FieldType.boolean) ∈ tw_l := tb_5 (List.mem_of_getElem? (i := 182) rfl) rfl
theorem wd_1255 : Cond.methodLink RL 173 yX11_goOn ∈ tw_l := tb_5 (List.mem_of_getElem? (i := 183) rfl) rfl
theorem wd_1256 : Cond.instanceMethod yX11_goOn ∈ tw_l := tb_5 (List.mem_of_getElem? (i := 184) rfl) rfl
theorem wd_1257 : Cond.selects RX11 yX11_goOn yX11_goOn ∈ tw_l := tb_5 (List.mem_of_getElem? (i := 185) rfl) rfl
theorem wd_1258 : Cond.code yX11_goOn cX11_goOn 2 (some FieldType.int) ∈ tw_l := tb_5 (List.mem_of_getElem? (i := 186) rfl) rfl
theorem wd_1259 : Cond.methodLink RL 177 yX11_searched ∈ tw_l := tb_5 (List.mem_of_getElem? (i := 187) rfl) rfl
theorem wd_1260 : Cond.instanceMethod yX11_searched ∈ tw_l := tb_5 (List.mem_of_getElem? (i := 188) rfl) rfl
theorem wd_1261 : Cond.selects RX11 yX11_searched yX11_searched ∈ tw_l := tb_5 (List.mem_of_getElem? (i := 189) rfl) rfl
theorem wd_1262 : Cond.code yX11_searched cX11_searched 2 (some FieldType.int) ∈ tw_l := tb_5 (List.mem_of_getElem? (i := 190) rfl) rfl
theorem wd_1263 : Cond.methodLink RX11 377 yX8_smallest ∈ tw_l := tb_5 (List.mem_of_getElem? (i := 191) rfl) rfl
theorem wd_1264 : Cond.instanceMethod yX8_smallest ∈ tw_l := tb_5 (List.mem_of_getElem? (i := 192) rfl) rfl
theorem wd_1265 : Cond.selects RX8 yX8_smallest yX8_smallest ∈ tw_l := tb_5 (List.mem_of_getElem? (i := 193) rfl) rfl
theorem wd_1266 : Cond.code yX8_smallest cX8_smallest 3 (some FieldType.int) ∈ tw_l := tb_5 (List.mem_of_getElem? (i := 194) rfl) rfl
theorem wd_1267 : Cond.methodLink RL 181 yX11_fewer ∈ tw_l := tb_5 (List.mem_of_getElem? (i := 195) rfl) rfl
theorem wd_1268 : Cond.instanceMethod yX11_fewer ∈ tw_l := tb_5 (List.mem_of_getElem? (i := 196) rfl) rfl
theorem wd_1269 : Cond.selects RX11 yX11_fewer yX11_fewer ∈ tw_l := tb_5 (List.mem_of_getElem? (i := 197) rfl) rfl
theorem wd_1270 : Cond.code yX11_fewer cX11_fewer 2 (some FieldType.int) ∈ tw_l := tb_5 (List.mem_of_getElem? (i := 198) rfl) rfl
theorem wd_1271 : Cond.methodLink RX11 386 yX8_tellWays ∈ tw_l := tb_5 (List.mem_of_getElem? (i := 199) rfl) rfl
theorem wd_1272 : Cond.instanceMethod yX8_tellWays ∈ tw_l := tb_5 (List.mem_of_getElem? (i := 200) rfl) rfl
theorem wd_1273 : Cond.selects RX8 yX8_tellWays yX8_tellWays ∈ tw_l := tb_5 (List.mem_of_getElem? (i := 201) rfl) rfl
theorem wd_1274 : Cond.code yX8_tellWays cX8_tellWays 4 (Option.none : Option FieldType) ∈ tw_l := tb_5 (List.mem_of_getElem? (i := 202) rfl) rfl
theorem wd_1275 : Cond.methodLink RX8 147 yX6_empty ∈ tw_l := tb_5 (List.mem_of_getElem? (i := 203) rfl) rfl
theorem wd_1276 : Cond.methodLink RX8 150 yX6_add ∈ tw_l := tb_5 (List.mem_of_getElem? (i := 204) rfl) rfl
theorem wd_1277 : Cond.methodLink RX8 154 yX6_reverse ∈ tw_l := tb_5 (List.mem_of_getElem? (i := 205) rfl) rfl
theorem wd_1278 : Cond.instanceMethod yX6_reverse ∈ tw_l := tb_5 (List.mem_of_getElem? (i := 206) rfl) rfl
theorem wd_1279 : Cond.selects RX6 yX6_reverse yX6_reverse ∈ tw_l := tb_5 (List.mem_of_getElem? (i := 207) rfl) rfl
theorem wd_1280 : Cond.code yX6_reverse cX6_reverse 3 (Option.none : Option FieldType) ∈ tw_l := tb_5 (List.mem_of_getElem? (i := 208) rfl) rfl
theorem wd_1281 : Cond.methodLink RX11 389 yX10_pourInto ∈ tw_l := tb_5 (List.mem_of_getElem? (i := 209) rfl) rfl
theorem wd_1282 : Cond.methodLink RL 185 yX11_same ∈ tw_l := tb_5 (List.mem_of_getElem? (i := 210) rfl) rfl
theorem wd_1283 : Cond.instanceMethod yX11_same ∈ tw_l := tb_5 (List.mem_of_getElem? (i := 211) rfl) rfl
theorem wd_1284 : Cond.selects RX11 yX11_same yX11_same ∈ tw_l := tb_5 (List.mem_of_getElem? (i := 212) rfl) rfl
theorem wd_1285 : Cond.code yX11_same cX11_same 5 (some FieldType.int) ∈ tw_l := tb_5 (List.mem_of_getElem? (i := 213) rfl) rfl
theorem wd_1286 : Cond.methodLink RX11 396 yX11_partingNumber ∈ tw_l := tb_5 (List.mem_of_getElem? (i := 214) rfl) rfl
theorem wd_1288 : Cond.instanceMethod yX11_partingNumber ∈ tw_l := tb_5 (List.mem_of_getElem? (i := 216) rfl) rfl
theorem wd_1289 : Cond.code yX11_partingNumber cX11_partingNumber 3 (some FieldType.int) ∈ tw_l := tb_5 (List.mem_of_getElem? (i := 217) rfl) rfl
theorem wd_1290 : Cond.methodLink RX11 392 yX2_isAs ∈ tw_l := tb_5 (List.mem_of_getElem? (i := 218) rfl) rfl
theorem wd_1291 : Cond.instanceMethod yX2_isAs ∈ tw_l := tb_5 (List.mem_of_getElem? (i := 219) rfl) rfl
theorem wd_1292 : Cond.selects RX2 yX2_isAs yX2_isAs ∈ tw_l := tb_5 (List.mem_of_getElem? (i := 220) rfl) rfl
theorem wd_1293 : Cond.code yX2_isAs cX2_isAs 3 (some FieldType.boolean) ∈ tw_l := tb_5 (List.mem_of_getElem? (i := 221) rfl) rfl
theorem wd_1294 : Cond.methodLink RX11 402 yX8_aimAt ∈ tw_l := tb_5 (List.mem_of_getElem? (i := 222) rfl) rfl
theorem wd_1295 : Cond.instanceMethod yX8_aimAt ∈ tw_l := tb_5 (List.mem_of_getElem? (i := 223) rfl) rfl
theorem wd_1296 : Cond.selects RX8 yX8_aimAt yX8_aimAt ∈ tw_l := tb_5 (List.mem_of_getElem? (i := 224) rfl) rfl
theorem wd_1297 : Cond.code yX8_aimAt cX8_aimAt 2 (Option.none : Option FieldType) ∈ tw_l := tb_5 (List.mem_of_getElem? (i := 225) rfl) rfl
theorem wd_1298 : Cond.methodLink RX11 405 yX8_takeAim ∈ tw_l := tb_5 (List.mem_of_getElem? (i := 226) rfl) rfl
theorem wd_1299 : Cond.instanceMethod yX8_takeAim ∈ tw_l := tb_5 (List.mem_of_getElem? (i := 227) rfl) rfl
theorem wd_1300 : Cond.selects RX8 yX8_takeAim yX8_takeAim ∈ tw_l := tb_5 (List.mem_of_getElem? (i := 228) rfl) rfl
theorem wd_1301 : Cond.code yX8_takeAim cX8_takeAim 2 (some FieldType.boolean) ∈ tw_l := tb_5 (List.mem_of_getElem? (i := 229) rfl) rfl
theorem wd_1302 : Cond.methodLink RX8 115 yX8_tellWays ∈ tw_l := tb_5 (List.mem_of_getElem? (i := 230) rfl) rfl
theorem wd_1303 : Cond.methodLink RL 189 yX11_parted ∈ tw_l := tb_5 (List.mem_of_getElem? (i := 231) rfl) rfl
theorem wd_1304 : Cond.instanceMethod yX11_parted ∈ tw_l := tb_5 (List.mem_of_getElem? (i := 232) rfl) rfl
theorem wd_1305 : Cond.selects RX11 yX11_parted yX11_parted ∈ tw_l := tb_5 (List.mem_of_getElem? (i := 233) rfl) rfl
theorem wd_1306 : Cond.code yX11_parted cX11_parted 1 (some FieldType.int) ∈ tw_l := tb_5 (List.mem_of_getElem? (i := 234) rfl) rfl
theorem wd_1307 : Cond.methodLink RL 193 yX11_way ∈ tw_l := tb_5 (List.mem_of_getElem? (i := 235) rfl) rfl
theorem wd_1308 : Cond.instanceMethod yX11_way ∈ tw_l := tb_5 (List.mem_of_getElem? (i := 236) rfl) rfl
theorem wd_1309 : Cond.selects RX11 yX11_way yX11_way ∈ tw_l := tb_5 (List.mem_of_getElem? (i := 237) rfl) rfl
theorem wd_1310 : Cond.code yX11_way cX11_way 2 (some FieldType.int) ∈ tw_l := tb_5 (List.mem_of_getElem? (i := 238) rfl) rfl
theorem wd_1311 : Cond.methodLink RL 197 yX11_check ∈ tw_l := tb_5 (List.mem_of_getElem? (i := 239) rfl) rfl
theorem wd_1312 : Cond.instanceMethod yX11_check ∈ tw_l := tb_6 (List.mem_of_getElem? (i := 0) rfl) rfl
theorem wd_1313 : Cond.selects RX11 yX11_check yX11_check ∈ tw_l := tb_6 (List.mem_of_getElem? (i := 1) rfl) rfl
theorem wd_1314 : Cond.code yX11_check cX11_check 2 (some FieldType.int) ∈ tw_l := tb_6 (List.mem_of_getElem? (i := 2) rfl) rfl
theorem wd_1315 : Cond.methodLink RX11 418 yX11_goWays ∈ tw_l := tb_6 (List.mem_of_getElem? (i := 3) rfl) rfl
theorem wd_1317 : Cond.instanceMethod yX11_goWays ∈ tw_l := tb_6 (List.mem_of_getElem? (i := 5) rfl) rfl
theorem wd_1318 : Cond.code yX11_goWays cX11_goWays 2 (some FieldType.boolean) ∈ tw_l := tb_6 (List.mem_of_getElem? (i := 6) rfl) rfl
theorem wd_1319 : Cond.methodLink RX11 411 yX4_pairUp ∈ tw_l := tb_6 (List.mem_of_getElem? (i := 7) rfl) rfl
theorem wd_1320 : Cond.methodLink RX11 414 yX5_takeStep ∈ tw_l := tb_6 (List.mem_of_getElem? (i := 8) rfl) rfl
theorem wd_1321 : Cond.methodLink RL 203 yX11_book ∈ tw_l := tb_6 (List.mem_of_getElem? (i := 9) rfl) rfl
theorem wd_1322 : Cond.instanceMethod yX11_book ∈ tw_l := tb_6 (List.mem_of_getElem? (i := 10) rfl) rfl
theorem wd_1323 : Cond.selects RX11 yX11_book yX11_book ∈ tw_l := tb_6 (List.mem_of_getElem? (i := 11) rfl) rfl
theorem wd_1324 : Cond.code yX11_book cX11_book 5 (some FieldType.int) ∈ tw_l := tb_6 (List.mem_of_getElem? (i := 12) rfl) rfl
theorem wd_1325 : Cond.methodLink RX11 422 yX0_has ∈ tw_l := tb_6 (List.mem_of_getElem? (i := 13) rfl) rfl
theorem wd_1326 : Cond.instanceMethod yX0_has ∈ tw_l := tb_6 (List.mem_of_getElem? (i := 14) rfl) rfl
theorem wd_1327 : Cond.selects RX0 yX0_has yX0_has ∈ tw_l := tb_6 (List.mem_of_getElem? (i := 15) rfl) rfl
theorem wd_1328 : Cond.code yX0_has cX0_has 4 (some FieldType.boolean) ∈ tw_l := tb_6 (List.mem_of_getElem? (i := 16) rfl) rfl
theorem wd_1329 : Cond.methodLink RX11 425 yX0_add ∈ tw_l := tb_6 (List.mem_of_getElem? (i := 17) rfl) rfl
theorem wd_1330 : Cond.instanceMethod yX0_add ∈ tw_l := tb_6 (List.mem_of_getElem? (i := 18) rfl) rfl
theorem wd_1331 : Cond.selects RX0 yX0_add yX0_add ∈ tw_l := tb_6 (List.mem_of_getElem? (i := 19) rfl) rfl
theorem wd_1332 : Cond.code yX0_add cX0_add 4 (Option.none : Option FieldType) ∈ tw_l := tb_6 (List.mem_of_getElem? (i := 20) rfl) rfl
theorem wd_1333 : Cond.methodLinkNest RX0 25 yX2_init RX11 ∈ tw_l := tb_6 (List.mem_of_getElem? (i := 21) rfl) rfl
theorem wd_1334 : Cond.methodLink RX0 26 yX2_take ∈ tw_l := tb_6 (List.mem_of_getElem? (i := 22) rfl) rfl
theorem wd_1335 : Cond.instanceMethod yX2_take ∈ tw_l := tb_6 (List.mem_of_getElem? (i := 23) rfl) rfl
theorem wd_1336 : Cond.selects RX2 yX2_take yX2_take ∈ tw_l := tb_6 (List.mem_of_getElem? (i := 24) rfl) rfl
theorem wd_1337 : Cond.code yX2_take cX2_take 2 (Option.none : Option FieldType) ∈ tw_l := tb_6 (List.mem_of_getElem? (i := 25) rfl) rfl
theorem wd_1338 : Cond.methodLink RX2 43 arraycopyName ∈ tw_l := tb_6 (List.mem_of_getElem? (i := 26) rfl) rfl
theorem wd_1339 : Cond.methodLink RL 208 yX11_name ∈ tw_l := tb_6 (List.mem_of_getElem? (i := 27) rfl) rfl
theorem wd_1340 : Cond.instanceMethod yX11_name ∈ tw_l := tb_6 (List.mem_of_getElem? (i := 28) rfl) rfl
theorem wd_1341 : Cond.selects RX11 yX11_name yX11_name ∈ tw_l := tb_6 (List.mem_of_getElem? (i := 29) rfl) rfl
theorem wd_1342 : Cond.code yX11_name cX11_name 3 (some FieldType.long) ∈ tw_l := tb_6 (List.mem_of_getElem? (i := 30) rfl) rfl
theorem wd_1343 : Cond.methodLink RX11 428 yX0_firstFor ∈ tw_l := tb_6 (List.mem_of_getElem? (i := 31) rfl) rfl
theorem wd_1344 : Cond.instanceMethod yX0_firstFor ∈ tw_l := tb_6 (List.mem_of_getElem? (i := 32) rfl) rfl
theorem wd_1345 : Cond.selects RX0 yX0_firstFor yX0_firstFor ∈ tw_l := tb_6 (List.mem_of_getElem? (i := 33) rfl) rfl
theorem wd_1346 : Cond.code yX0_firstFor cX0_firstFor 3 (some FieldType.long) ∈ tw_l := tb_6 (List.mem_of_getElem? (i := 34) rfl) rfl
theorem wd_1347 : Cond.methodLink RX0 30 yX2_isAs ∈ tw_l := tb_6 (List.mem_of_getElem? (i := 35) rfl) rfl
theorem wd_1348 : Cond.methodLink RL 212 yX11_count ∈ tw_l := tb_6 (List.mem_of_getElem? (i := 36) rfl) rfl
theorem wd_1349 : Cond.instanceMethod yX11_count ∈ tw_l := tb_6 (List.mem_of_getElem? (i := 37) rfl) rfl
theorem wd_1350 : Cond.selects RX11 yX11_count yX11_count ∈ tw_l := tb_6 (List.mem_of_getElem? (i := 38) rfl) rfl
theorem wd_1351 : Cond.code yX11_count cX11_count 2 (some FieldType.int) ∈ tw_l := tb_6 (List.mem_of_getElem? (i := 39) rfl) rfl
theorem wd_1352 : Cond.methodLink RL 216 yX11_findings ∈ tw_l := tb_6 (List.mem_of_getElem? (i := 40) rfl) rfl
theorem wd_1353 : Cond.instanceMethod yX11_findings ∈ tw_l := tb_6 (List.mem_of_getElem? (i := 41) rfl) rfl
theorem wd_1354 : Cond.selects RX11 yX11_findings yX11_findings ∈ tw_l := tb_6 (List.mem_of_getElem? (i := 42) rfl) rfl
theorem wd_1355 : Cond.code yX11_findings cX11_findings 2 (some FieldType.int) ∈ tw_l := tb_6 (List.mem_of_getElem? (i := 43) rfl) rfl
theorem wd_1356 : Cond.methodLink RL 220 yX11_status ∈ tw_l := tb_6 (List.mem_of_getElem? (i := 44) rfl) rfl
theorem wd_1357 : Cond.instanceMethod yX11_status ∈ tw_l := tb_6 (List.mem_of_getElem? (i := 45) rfl) rfl
theorem wd_1358 : Cond.selects RX11 yX11_status yX11_status ∈ tw_l := tb_6 (List.mem_of_getElem? (i := 46) rfl) rfl
theorem wd_1359 : Cond.code yX11_status cX11_status 1 (some FieldType.int) ∈ tw_l := tb_6 (List.mem_of_getElem? (i := 47) rfl) rfl
theorem wd_1360 : Cond.methodLink RL 224 yX11_digest ∈ tw_l := tb_6 (List.mem_of_getElem? (i := 48) rfl) rfl
theorem wd_1361 : Cond.instanceMethod yX11_digest ∈ tw_l := tb_6 (List.mem_of_getElem? (i := 49) rfl) rfl
theorem wd_1362 : Cond.selects RX11 yX11_digest yX11_digest ∈ tw_l := tb_6 (List.mem_of_getElem? (i := 50) rfl) rfl
theorem wd_1363 : Cond.code yX11_digest cX11_digest 4 (some FieldType.long) ∈ tw_l := tb_6 (List.mem_of_getElem? (i := 51) rfl) rfl
theorem wd_1364 : Cond.constantLong RX11 435 (17) ∈ tw_l := tb_6 (List.mem_of_getElem? (i := 52) rfl) rfl
theorem wd_1365 : Cond.methodLink RX11 437 yX7_mixInto ∈ tw_l := tb_6 (List.mem_of_getElem? (i := 53) rfl) rfl
theorem wd_1366 : Cond.instanceMethod yX7_mixInto ∈ tw_l := tb_6 (List.mem_of_getElem? (i := 54) rfl) rfl
theorem wd_1367 : Cond.selects RX7 yX7_mixInto yX7_mixInto ∈ tw_l := tb_6 (List.mem_of_getElem? (i := 55) rfl) rfl
theorem wd_1368 : Cond.code yX7_mixInto cX7_mixInto 5 (some FieldType.long) ∈ tw_l := tb_6 (List.mem_of_getElem? (i := 56) rfl) rfl
theorem wd_1369 : Cond.constantLong RX7 111 (31) ∈ tw_l := tb_6 (List.mem_of_getElem? (i := 57) rfl) rfl
theorem wd_1370 : Cond.classLink RL 10 RX12 ∈ tw_l := tb_6 (List.mem_of_getElem? (i := 58) rfl) rfl
theorem wd_1371 : Cond.instantiable RX12 65 ∈ tw_l := tb_6 (List.mem_of_getElem? (i := 59) rfl) rfl
theorem wd_1372 : Cond.methodLink RL 12 yX12_init ∈ tw_l := tb_6 (List.mem_of_getElem? (i := 60) rfl) rfl
theorem wd_1373 : Cond.instanceMethod yX12_init ∈ tw_l := tb_6 (List.mem_of_getElem? (i := 61) rfl) rfl
theorem wd_1374 : Cond.code yX12_init cX12_init 2 (Option.none : Option FieldType) ∈ tw_l := tb_6 (List.mem_of_getElem? (i := 62) rfl) rfl
theorem wd_1375 : Cond.methodLink RX12 1 Lib.objectInit ∈ tw_l := tb_6 (List.mem_of_getElem? (i := 63) rfl) rfl
theorem wd_1376 : Cond.constant RX12 22 (58880) ∈ tw_l := tb_6 (List.mem_of_getElem? (i := 64) rfl) rfl
theorem wd_1377 : Cond.constant RX12 158 (120200) ∈ tw_l := tb_6 (List.mem_of_getElem? (i := 65) rfl) rfl
theorem wd_1378 : Cond.fieldLink RX12 162 RX12 "why" "I" ∈ tw_l := tb_6 (List.mem_of_getElem? (i := 66) rfl) rfl
theorem wd_1379 : Cond.fieldLink RX12 7 RX12 "came" "[I" ∈ tw_l := tb_6 (List.mem_of_getElem? (i := 67) rfl) rfl
theorem wd_1380 : Cond.fieldLink RX12 13 RX12 "many" "[I" ∈ tw_l := tb_6 (List.mem_of_getElem? (i := 68) rfl) rfl
theorem wd_1381 : Cond.fieldLink RX12 16 RX12 "circles" "[I" ∈ tw_l := tb_6 (List.mem_of_getElem? (i := 69) rfl) rfl
theorem wd_1382 : Cond.fieldLink RX12 19 RX12 "size" "[I" ∈ tw_l := tb_6 (List.mem_of_getElem? (i := 70) rfl) rfl
theorem wd_1383 : Cond.fieldLink RX12 23 RX12 "arc" "[I" ∈ tw_l := tb_6 (List.mem_of_getElem? (i := 71) rfl) rfl
theorem wd_1384 : Cond.fieldLink RX12 169 RX12 "pictures" "I" ∈ tw_l := tb_6 (List.mem_of_getElem? (i := 72) rfl) rfl
theorem wd_1385 : Cond.fieldLink RX12 26 RX12 "past" "[I" ∈ tw_l := tb_6 (List.mem_of_getElem? (i := 73) rfl) rfl
theorem wd_1386 : Cond.fieldLink RX12 29 RX12 "held" "[I" ∈ tw_l := tb_6 (List.mem_of_getElem? (i := 74) rfl) rfl
theorem wd_1387 : Cond.fieldLink RX12 32 RX12 "place" "I" ∈ tw_l := tb_6 (List.mem_of_getElem? (i := 75) rfl) rfl
theorem wd_1388 : Cond.fieldLink RX12 36 RX12 "other" "[I" ∈ tw_l := tb_6 (List.mem_of_getElem? (i := 76) rfl) rfl
theorem wd_1389 : Cond.fieldLink RX12 39 RX12 "group" "[I" ∈ tw_l := tb_6 (List.mem_of_getElem? (i := 77) rfl) rfl
theorem wd_1390 : Cond.fieldLink RX12 42 RX12 "isSeen" "[Z" ∈ tw_l := tb_6 (List.mem_of_getElem? (i := 78) rfl) rfl
theorem wd_1391 : Cond.fieldLink RX12 46 RX12 "first" "[I" ∈ tw_l := tb_6 (List.mem_of_getElem? (i := 79) rfl) rfl
theorem wd_1392 : Cond.fieldLink RX12 49 RX12 "times" "[I" ∈ tw_l := tb_6 (List.mem_of_getElem? (i := 80) rfl) rfl
theorem wd_1393 : Cond.fieldLink RX12 52 RX12 "told" "I" ∈ tw_l := tb_6 (List.mem_of_getElem? (i := 81) rfl) rfl
theorem wd_1394 : Cond.fieldLink RX12 55 RX12 "pieceAt" "[I" ∈ tw_l := tb_6 (List.mem_of_getElem? (i := 82) rfl) rfl
theorem wd_1395 : Cond.fieldLink RX12 58 RX12 "comesIn" "[Z" ∈ tw_l := tb_6 (List.mem_of_getElem? (i := 83) rfl) rfl
theorem wd_1396 : Cond.fieldLink RX12 61 RX12 "strand" "[I" ∈ tw_l := tb_6 (List.mem_of_getElem? (i := 84) rfl) rfl
theorem wd_1397 : Cond.fieldLink RX12 64 RX12 "sums" "[I" ∈ tw_l := tb_6 (List.mem_of_getElem? (i := 85) rfl) rfl
theorem wd_1398 : Cond.fieldLink RX12 67 RX12 "made" "[J" ∈ tw_l := tb_6 (List.mem_of_getElem? (i := 86) rfl) rfl
theorem wd_1399 : Cond.fieldLink RX12 71 RX12 "result" "[J" ∈ tw_l := tb_6 (List.mem_of_getElem? (i := 87) rfl) rfl
theorem wd_1400 : Cond.fieldLink RX12 263 RX12 "hasResult" "Z" ∈ tw_l := tb_6 (List.mem_of_getElem? (i := 88) rfl) rfl
theorem wd_1401 : Cond.fieldLink RX12 250 RX12 "work" "I" ∈ tw_l := tb_6 (List.mem_of_getElem? (i := 89) rfl) rfl
theorem wd_1402 : Cond.fieldLink RX12 74 RX12 "joins" "[I" ∈ tw_l := tb_6 (List.mem_of_getElem? (i := 90) rfl) rfl
theorem wd_1403 : Cond.fieldLink RX12 77 RX12 "ways" "[J" ∈ tw_l := tb_6 (List.mem_of_getElem? (i := 91) rfl) rfl
theorem wd_1404 : Cond.fieldLink RX12 80 RX12 "power" "[J" ∈ tw_l := tb_6 (List.mem_of_getElem? (i := 92) rfl) rfl
theorem wd_1405 : Cond.fieldLink RX12 83 RX12 "spare" "[J" ∈ tw_l := tb_6 (List.mem_of_getElem? (i := 93) rfl) rfl
theorem wd_1406 : Cond.fieldLink RX12 86 RX12 "tape" "[I" ∈ tw_l := tb_6 (List.mem_of_getElem? (i := 94) rfl) rfl
theorem wd_1407 : Cond.fieldLink RX12 281 RX12 "taped" "I" ∈ tw_l := tb_6 (List.mem_of_getElem? (i := 95) rfl) rfl
theorem wd_1408 : Cond.fieldLink RX12 89 RX12 "under" "[I" ∈ tw_l := tb_6 (List.mem_of_getElem? (i := 96) rfl) rfl
theorem wd_1409 : Cond.fieldLink RX12 92 RX12 "over" "[I" ∈ tw_l := tb_6 (List.mem_of_getElem? (i := 97) rfl) rfl
theorem wd_1410 : Cond.fieldLink RX12 95 RX12 "comesBy" "[I" ∈ tw_l := tb_6 (List.mem_of_getElem? (i := 98) rfl) rfl
theorem wd_1411 : Cond.fieldLink RX12 98 RX12 "isUsed" "[Z" ∈ tw_l := tb_6 (List.mem_of_getElem? (i := 99) rfl) rfl
theorem wd_1412 : Cond.fieldLink RX12 101 RX12 "was" "[I" ∈ tw_l := tb_6 (List.mem_of_getElem? (i := 100) rfl) rfl
theorem wd_1413 : Cond.fieldLink RX12 365 RX12 "moves" "I" ∈ tw_l := tb_6 (List.mem_of_getElem? (i := 101) rfl) rfl
theorem wd_1414 : Cond.fieldLink RX12 104 RX12 "numbers" "[I" ∈ tw_l := tb_6 (List.mem_of_getElem? (i := 102) rfl) rfl
theorem wd_1415 : Cond.fieldLink RX12 107 RX12 "bodies" "[I" ∈ tw_l := tb_6 (List.mem_of_getElem? (i := 103) rfl) rfl
theorem wd_1416 : Cond.fieldLink RX12 368 RX12 "bodyMany" "I" ∈ tw_l := tb_6 (List.mem_of_getElem? (i := 104) rfl) rfl
theorem wd_1417 : Cond.fieldLink RX12 110 RX12 "label" "[I" ∈ tw_l := tb_6 (List.mem_of_getElem? (i := 105) rfl) rfl
theorem wd_1418 : Cond.fieldLink RX12 113 RX12 "rotation" "[I" ∈ tw_l := tb_6 (List.mem_of_getElem? (i := 106) rfl) rfl
theorem wd_1419 : Cond.fieldLink RX12 116 RX12 "line" "[I" ∈ tw_l := tb_6 (List.mem_of_getElem? (i := 107) rfl) rfl
theorem wd_1420 : Cond.fieldLink RX12 119 RX12 "trial" "[I" ∈ tw_l := tb_6 (List.mem_of_getElem? (i := 108) rfl) rfl
theorem wd_1421 : Cond.fieldLink RX12 122 RX12 "best" "[I" ∈ tw_l := tb_6 (List.mem_of_getElem? (i := 109) rfl) rfl
theorem wd_1422 : Cond.fieldLink RX12 125 RX12 "partFrom" "[I" ∈ tw_l := tb_6 (List.mem_of_getElem? (i := 110) rfl) rfl
theorem wd_1423 : Cond.fieldLink RX12 128 RX12 "partCodes" "[I" ∈ tw_l := tb_6 (List.mem_of_getElem? (i := 111) rfl) rfl
theorem wd_1424 : Cond.fieldLink RX12 131 RX12 "isLaid" "[Z" ∈ tw_l := tb_6 (List.mem_of_getElem? (i := 112) rfl) rfl
theorem wd_1425 : Cond.fieldLink RX12 134 RX12 "codeA" "[I" ∈ tw_l := tb_6 (List.mem_of_getElem? (i := 113) rfl) rfl
theorem wd_1426 : Cond.fieldLink RX12 137 RX12 "codeB" "[I" ∈ tw_l := tb_6 (List.mem_of_getElem? (i := 114) rfl) rfl
theorem wd_1427 : Cond.fieldLink RX12 420 RX12 "hasSearch" "Z" ∈ tw_l := tb_6 (List.mem_of_getElem? (i := 115) rfl) rfl
theorem wd_1428 : Cond.fieldLink RX12 423 RX12 "isEnded" "Z" ∈ tw_l := tb_6 (List.mem_of_getElem? (i := 116) rfl) rfl
theorem wd_1429 : Cond.fieldLink RX12 426 RX12 "states" "I" ∈ tw_l := tb_6 (List.mem_of_getElem? (i := 117) rfl) rfl
theorem wd_1430 : Cond.fieldLink RX12 429 RX12 "atState" "I" ∈ tw_l := tb_6 (List.mem_of_getElem? (i := 118) rfl) rfl
theorem wd_1431 : Cond.fieldLink RX12 432 RX12 "atWay" "I" ∈ tw_l := tb_6 (List.mem_of_getElem? (i := 119) rfl) rfl
theorem wd_1432 : Cond.fieldLink RX12 435 RX12 "steps" "I" ∈ tw_l := tb_6 (List.mem_of_getElem? (i := 120) rfl) rfl
theorem wd_1433 : Cond.fieldLink RX12 140 RX12 "stateFrom" "[I" ∈ tw_l := tb_6 (List.mem_of_getElem? (i := 121) rfl) rfl
theorem wd_1434 : Cond.fieldLink RX12 143 RX12 "stateWay" "[I" ∈ tw_l := tb_6 (List.mem_of_getElem? (i := 122) rfl) rfl
theorem wd_1435 : Cond.fieldLink RX12 146 RX12 "stateCode" "[I" ∈ tw_l := tb_6 (List.mem_of_getElem? (i := 123) rfl) rfl
theorem wd_1436 : Cond.fieldLink RX12 149 RX12 "wayRow" "[I" ∈ tw_l := tb_6 (List.mem_of_getElem? (i := 124) rfl) rfl
theorem wd_1437 : Cond.fieldLink RX12 455 RX12 "wayMany" "I" ∈ tw_l := tb_6 (List.mem_of_getElem? (i := 125) rfl) rfl
theorem wd_1438 : Cond.fieldLink RX12 467 RX12 "parted" "I" ∈ tw_l := tb_6 (List.mem_of_getElem? (i := 126) rfl) rfl
theorem wd_1439 : Cond.fieldLink RX12 152 RX12 "left" "[J" ∈ tw_l := tb_6 (List.mem_of_getElem? (i := 127) rfl) rfl
theorem wd_1440 : Cond.fieldLink RX12 470 RX12 "names" "I" ∈ tw_l := tb_6 (List.mem_of_getElem? (i := 128) rfl) rfl
theorem wd_1441 : Cond.fieldLink RX12 155 RX12 "name" "[J" ∈ tw_l := tb_6 (List.mem_of_getElem? (i := 129) rfl) rfl
theorem wd_1442 : Cond.fieldLink RX12 159 RX12 "numbersOf" "[J" ∈ tw_l := tb_6 (List.mem_of_getElem? (i := 130) rfl) rfl
theorem wd_1574 : Cond.arrayClass (FieldType.boolean) ∈ tw_l := tb_7 (List.mem_of_getElem? (i := 22) rfl) rfl
theorem wd_1575 : Cond.methodLink RL 17 yX12_picture ∈ tw_l := tb_7 (List.mem_of_getElem? (i := 23) rfl) rfl
theorem wd_1576 : Cond.instanceMethod yX12_picture ∈ tw_l := tb_7 (List.mem_of_getElem? (i := 24) rfl) rfl
theorem wd_1577 : Cond.selects RX12 yX12_picture yX12_picture ∈ tw_l := tb_7 (List.mem_of_getElem? (i := 25) rfl) rfl
theorem wd_1578 : Cond.code yX12_picture cX12_picture 1 (some FieldType.int) ∈ tw_l := tb_7 (List.mem_of_getElem? (i := 26) rfl) rfl
theorem wd_1579 : Cond.methodLink RX12 165 yX12_no ∈ tw_l := tb_7 (List.mem_of_getElem? (i := 27) rfl) rfl
theorem wd_1581 : Cond.instanceMethod yX12_no ∈ tw_l := tb_7 (List.mem_of_getElem? (i := 29) rfl) rfl
theorem wd_1582 : Cond.code yX12_no cX12_no 2 (some FieldType.int) ∈ tw_l := tb_7 (List.mem_of_getElem? (i := 30) rfl) rfl
theorem wd_1583 : Cond.methodLink RX12 180 yX12_well ∈ tw_l := tb_7 (List.mem_of_getElem? (i := 31) rfl) rfl
theorem wd_1585 : Cond.instanceMethod yX12_well ∈ tw_l := tb_7 (List.mem_of_getElem? (i := 33) rfl) rfl
theorem wd_1586 : Cond.code yX12_well cX12_well 2 (some FieldType.int) ∈ tw_l := tb_7 (List.mem_of_getElem? (i := 34) rfl) rfl
theorem wd_1587 : Cond.methodLink RL 22 yX12_crossing ∈ tw_l := tb_7 (List.mem_of_getElem? (i := 35) rfl) rfl
theorem wd_1588 : Cond.instanceMethod yX12_crossing ∈ tw_l := tb_7 (List.mem_of_getElem? (i := 36) rfl) rfl
theorem wd_1589 : Cond.selects RX12 yX12_crossing yX12_crossing ∈ tw_l := tb_7 (List.mem_of_getElem? (i := 37) rfl) rfl
theorem wd_1590 : Cond.code yX12_crossing cX12_crossing 6 (some FieldType.int) ∈ tw_l := tb_7 (List.mem_of_getElem? (i := 38) rfl) rfl
theorem wd_1591 : Cond.methodLink RX12 187 yX12_isPicture ∈ tw_l := tb_7 (List.mem_of_getElem? (i := 39) rfl) rfl
theorem wd_1593 : Cond.instanceMethod yX12_isPicture ∈ tw_l := tb_7 (List.mem_of_getElem? (i := 41) rfl) rfl
theorem wd_1594 : Cond.code yX12_isPicture cX12_isPicture 2 (some FieldType.boolean) ∈ tw_l := tb_7 (List.mem_of_getElem? (i := 42) rfl) rfl
theorem wd_1595 : Cond.methodLink RX12 172 yX12_in ∈ tw_l := tb_7 (List.mem_of_getElem? (i := 43) rfl) rfl
theorem wd_1596 : Cond.static yX12_in ∈ tw_l := tb_7 (List.mem_of_getElem? (i := 44) rfl) rfl
theorem wd_1597 : Cond.code yX12_in cX12_in 6 (some FieldType.boolean) ∈ tw_l := tb_7 (List.mem_of_getElem? (i := 45) rfl) rfl
theorem wd_1598 : Cond.methodLink RX12 191 yX12_isArc ∈ tw_l := tb_7 (List.mem_of_getElem? (i := 46) rfl) rfl
theorem wd_1599 : Cond.static yX12_isArc ∈ tw_l := tb_7 (List.mem_of_getElem? (i := 47) rfl) rfl
theorem wd_1600 : Cond.code yX12_isArc cX12_isArc 1 (some FieldType.boolean) ∈ tw_l := tb_7 (List.mem_of_getElem? (i := 48) rfl) rfl
theorem wd_1601 : Cond.constantLong RX12 183 (-1) ∈ tw_l := tb_7 (List.mem_of_getElem? (i := 49) rfl) rfl
theorem wd_1602 : Cond.constantLong RX12 185 (99) ∈ tw_l := tb_7 (List.mem_of_getElem? (i := 50) rfl) rfl
theorem wd_1603 : Cond.methodLink RX12 194 yX12_append ∈ tw_l := tb_7 (List.mem_of_getElem? (i := 51) rfl) rfl
theorem wd_1605 : Cond.instanceMethod yX12_append ∈ tw_l := tb_7 (List.mem_of_getElem? (i := 53) rfl) rfl
theorem wd_1606 : Cond.code yX12_append cX12_append 7 (Option.none : Option FieldType) ∈ tw_l := tb_7 (List.mem_of_getElem? (i := 54) rfl) rfl
theorem wd_1607 : Cond.methodLink RL 27 yX12_row ∈ tw_l := tb_7 (List.mem_of_getElem? (i := 55) rfl) rfl
theorem wd_1608 : Cond.instanceMethod yX12_row ∈ tw_l := tb_7 (List.mem_of_getElem? (i := 56) rfl) rfl
theorem wd_1609 : Cond.selects RX12 yX12_row yX12_row ∈ tw_l := tb_7 (List.mem_of_getElem? (i := 57) rfl) rfl
theorem wd_1610 : Cond.code yX12_row cX12_row 7 (some FieldType.int) ∈ tw_l := tb_7 (List.mem_of_getElem? (i := 58) rfl) rfl
theorem wd_1611 : Cond.constantLong RX12 198 (4) ∈ tw_l := tb_7 (List.mem_of_getElem? (i := 59) rfl) rfl
theorem wd_1612 : Cond.methodLink RX12 200 yX12_meets ∈ tw_l := tb_7 (List.mem_of_getElem? (i := 60) rfl) rfl
theorem wd_1614 : Cond.instanceMethod yX12_meets ∈ tw_l := tb_7 (List.mem_of_getElem? (i := 62) rfl) rfl
theorem wd_1615 : Cond.code yX12_meets cX12_meets 2 (some FieldType.int) ∈ tw_l := tb_7 (List.mem_of_getElem? (i := 63) rfl) rfl
theorem wd_1616 : Cond.methodLink RL 31 yX12_end ∈ tw_l := tb_7 (List.mem_of_getElem? (i := 64) rfl) rfl
theorem wd_1617 : Cond.instanceMethod yX12_end ∈ tw_l := tb_7 (List.mem_of_getElem? (i := 65) rfl) rfl
theorem wd_1618 : Cond.selects RX12 yX12_end yX12_end ∈ tw_l := tb_7 (List.mem_of_getElem? (i := 66) rfl) rfl
theorem wd_1619 : Cond.code yX12_end cX12_end 5 (some FieldType.int) ∈ tw_l := tb_7 (List.mem_of_getElem? (i := 67) rfl) rfl
theorem wd_1620 : Cond.methodLink RX12 203 yX12_lacks ∈ tw_l := tb_7 (List.mem_of_getElem? (i := 68) rfl) rfl
theorem wd_1622 : Cond.instanceMethod yX12_lacks ∈ tw_l := tb_7 (List.mem_of_getElem? (i := 70) rfl) rfl
theorem wd_1623 : Cond.code yX12_lacks cX12_lacks 4 (some FieldType.int) ∈ tw_l := tb_7 (List.mem_of_getElem? (i := 71) rfl) rfl
theorem wd_1624 : Cond.methodLink RL 36 yX12_put ∈ tw_l := tb_7 (List.mem_of_getElem? (i := 72) rfl) rfl
theorem wd_1625 : Cond.instanceMethod yX12_put ∈ tw_l := tb_7 (List.mem_of_getElem? (i := 73) rfl) rfl
theorem wd_1626 : Cond.selects RX12 yX12_put yX12_put ∈ tw_l := tb_7 (List.mem_of_getElem? (i := 74) rfl) rfl
theorem wd_1627 : Cond.code yX12_put cX12_put 6 (some FieldType.int) ∈ tw_l := tb_7 (List.mem_of_getElem? (i := 75) rfl) rfl
theorem wd_1628 : Cond.methodLink RL 41 yX12_copy ∈ tw_l := tb_7 (List.mem_of_getElem? (i := 76) rfl) rfl
theorem wd_1629 : Cond.instanceMethod yX12_copy ∈ tw_l := tb_7 (List.mem_of_getElem? (i := 77) rfl) rfl
theorem wd_1630 : Cond.selects RX12 yX12_copy yX12_copy ∈ tw_l := tb_7 (List.mem_of_getElem? (i := 78) rfl) rfl
theorem wd_1631 : Cond.code yX12_copy cX12_copy 11 (some FieldType.int) ∈ tw_l := tb_7 (List.mem_of_getElem? (i := 79) rfl) rfl
theorem wd_1632 : Cond.methodLink RL 46 yX12_loose ∈ tw_l := tb_7 (List.mem_of_getElem? (i := 80) rfl) rfl
theorem wd_1633 : Cond.instanceMethod yX12_loose ∈ tw_l := tb_7 (List.mem_of_getElem? (i := 81) rfl) rfl
theorem wd_1634 : Cond.selects RX12 yX12_loose yX12_loose ∈ tw_l := tb_7 (List.mem_of_getElem? (i := 82) rfl) rfl
theorem wd_1635 : Cond.code yX12_loose cX12_loose 4 (some FieldType.int) ∈ tw_l := tb_7 (List.mem_of_getElem? (i := 83) rfl) rfl
theorem wd_1636 : Cond.constantLong RX12 207 (9) ∈ tw_l := tb_7 (List.mem_of_getElem? (i := 84) rfl) rfl
theorem wd_1637 : Cond.methodLink RL 51 yX12_open ∈ tw_l := tb_7 (List.mem_of_getElem? (i := 85) rfl) rfl
theorem wd_1638 : Cond.instanceMethod yX12_open ∈ tw_l := tb_7 (List.mem_of_getElem? (i := 86) rfl) rfl
theorem wd_1639 : Cond.selects RX12 yX12_open yX12_open ∈ tw_l := tb_7 (List.mem_of_getElem? (i := 87) rfl) rfl
theorem wd_1640 : Cond.code yX12_open cX12_open 3 (some FieldType.int) ∈ tw_l := tb_7 (List.mem_of_getElem? (i := 88) rfl) rfl
theorem wd_1641 : Cond.methodLink RX12 226 yX12_openOf ∈ tw_l := tb_7 (List.mem_of_getElem? (i := 89) rfl) rfl
theorem wd_1643 : Cond.instanceMethod yX12_openOf ∈ tw_l := tb_7 (List.mem_of_getElem? (i := 91) rfl) rfl
theorem wd_1644 : Cond.code yX12_openOf cX12_openOf 4 (some FieldType.int) ∈ tw_l := tb_7 (List.mem_of_getElem? (i := 92) rfl) rfl
theorem wd_1645 : Cond.methodLink RX12 216 yX12_link ∈ tw_l := tb_7 (List.mem_of_getElem? (i := 93) rfl) rfl
theorem wd_1647 : Cond.instanceMethod yX12_link ∈ tw_l := tb_7 (List.mem_of_getElem? (i := 95) rfl) rfl
theorem wd_1648 : Cond.code yX12_link cX12_link 4 (Option.none : Option FieldType) ∈ tw_l := tb_7 (List.mem_of_getElem? (i := 96) rfl) rfl
theorem wd_1649 : Cond.methodLink RX12 220 yX12_facesOf ∈ tw_l := tb_7 (List.mem_of_getElem? (i := 97) rfl) rfl
theorem wd_1651 : Cond.instanceMethod yX12_facesOf ∈ tw_l := tb_7 (List.mem_of_getElem? (i := 99) rfl) rfl
theorem wd_1652 : Cond.code yX12_facesOf cX12_facesOf 5 (some FieldType.int) ∈ tw_l := tb_7 (List.mem_of_getElem? (i := 100) rfl) rfl
theorem wd_1653 : Cond.methodLink RX12 213 yX12_nextOfFace ∈ tw_l := tb_7 (List.mem_of_getElem? (i := 101) rfl) rfl
theorem wd_1655 : Cond.instanceMethod yX12_nextOfFace ∈ tw_l := tb_7 (List.mem_of_getElem? (i := 103) rfl) rfl
theorem wd_1656 : Cond.code yX12_nextOfFace cX12_nextOfFace 2 (some FieldType.int) ∈ tw_l := tb_7 (List.mem_of_getElem? (i := 104) rfl) rfl
theorem wd_1657 : Cond.methodLink RX12 209 yX12_turned ∈ tw_l := tb_7 (List.mem_of_getElem? (i := 105) rfl) rfl
theorem wd_1658 : Cond.static yX12_turned ∈ tw_l := tb_7 (List.mem_of_getElem? (i := 106) rfl) rfl
theorem wd_1659 : Cond.code yX12_turned cX12_turned 2 (some FieldType.int) ∈ tw_l := tb_7 (List.mem_of_getElem? (i := 107) rfl) rfl
theorem wd_1660 : Cond.methodLink RX12 223 yX12_partsOf ∈ tw_l := tb_7 (List.mem_of_getElem? (i := 108) rfl) rfl
theorem wd_1662 : Cond.instanceMethod yX12_partsOf ∈ tw_l := tb_7 (List.mem_of_getElem? (i := 110) rfl) rfl
theorem wd_1663 : Cond.code yX12_partsOf cX12_partsOf 5 (some FieldType.int) ∈ tw_l := tb_7 (List.mem_of_getElem? (i := 111) rfl) rfl
theorem wd_1664 : Cond.methodLink RL 55 yX12_where ∈ tw_l := tb_7 (List.mem_of_getElem? (i := 112) rfl) rfl
theorem wd_1665 : Cond.instanceMethod yX12_where ∈ tw_l := tb_7 (List.mem_of_getElem? (i := 113) rfl) rfl
theorem wd_1666 : Cond.selects RX12 yX12_where yX12_where ∈ tw_l := tb_7 (List.mem_of_getElem? (i := 114) rfl) rfl
theorem wd_1667 : Cond.code yX12_where cX12_where 1 (some FieldType.int) ∈ tw_l := tb_7 (List.mem_of_getElem? (i := 115) rfl) rfl
theorem wd_1668 : Cond.methodLink RL 59 yX12_told ∈ tw_l := tb_7 (List.mem_of_getElem? (i := 116) rfl) rfl
theorem wd_1669 : Cond.instanceMethod yX12_told ∈ tw_l := tb_7 (List.mem_of_getElem? (i := 117) rfl) rfl
theorem wd_1670 : Cond.selects RX12 yX12_told yX12_told ∈ tw_l := tb_7 (List.mem_of_getElem? (i := 118) rfl) rfl
theorem wd_1671 : Cond.code yX12_told cX12_told 4 (some FieldType.int) ∈ tw_l := tb_7 (List.mem_of_getElem? (i := 119) rfl) rfl
theorem wd_1672 : Cond.constantLong RX12 235 (5) ∈ tw_l := tb_7 (List.mem_of_getElem? (i := 120) rfl) rfl
theorem wd_1673 : Cond.methodLink RX12 237 yX12_refusal ∈ tw_l := tb_7 (List.mem_of_getElem? (i := 121) rfl) rfl
theorem wd_1675 : Cond.instanceMethod yX12_refusal ∈ tw_l := tb_7 (List.mem_of_getElem? (i := 123) rfl) rfl
theorem wd_1676 : Cond.code yX12_refusal cX12_refusal 2 (some FieldType.int) ∈ tw_l := tb_7 (List.mem_of_getElem? (i := 124) rfl) rfl
theorem wd_1677 : Cond.methodLink RX12 229 yX12_piecesOf ∈ tw_l := tb_7 (List.mem_of_getElem? (i := 125) rfl) rfl
theorem wd_1679 : Cond.instanceMethod yX12_piecesOf ∈ tw_l := tb_7 (List.mem_of_getElem? (i := 127) rfl) rfl
theorem wd_1680 : Cond.code yX12_piecesOf cX12_piecesOf 5 (some FieldType.int) ∈ tw_l := tb_7 (List.mem_of_getElem? (i := 128) rfl) rfl
theorem wd_1681 : Cond.methodLink RX12 240 yX12_writheOf ∈ tw_l := tb_7 (List.mem_of_getElem? (i := 129) rfl) rfl
theorem wd_1683 : Cond.instanceMethod yX12_writheOf ∈ tw_l := tb_7 (List.mem_of_getElem? (i := 131) rfl) rfl
theorem wd_1684 : Cond.code yX12_writheOf cX12_writheOf 5 (some FieldType.int) ∈ tw_l := tb_7 (List.mem_of_getElem? (i := 132) rfl) rfl
theorem wd_1685 : Cond.methodLink RX12 232 yX12_signAt ∈ tw_l := tb_7 (List.mem_of_getElem? (i := 133) rfl) rfl
theorem wd_1687 : Cond.instanceMethod yX12_signAt ∈ tw_l := tb_7 (List.mem_of_getElem? (i := 135) rfl) rfl
theorem wd_1688 : Cond.code yX12_signAt cX12_signAt 3 (some FieldType.int) ∈ tw_l := tb_7 (List.mem_of_getElem? (i := 136) rfl) rfl
theorem wd_1689 : Cond.methodLink RL 83 yX12_sign ∈ tw_l := tb_7 (List.mem_of_getElem? (i := 137) rfl) rfl
theorem wd_1690 : Cond.instanceMethod yX12_sign ∈ tw_l := tb_7 (List.mem_of_getElem? (i := 138) rfl) rfl
theorem wd_1691 : Cond.selects RX12 yX12_sign yX12_sign ∈ tw_l := tb_7 (List.mem_of_getElem? (i := 139) rfl) rfl
theorem wd_1692 : Cond.code yX12_sign cX12_sign 5 (some FieldType.int) ∈ tw_l := tb_7 (List.mem_of_getElem? (i := 140) rfl) rfl
theorem wd_1693 : Cond.methodLink RL 87 yX12_pieceOf ∈ tw_l := tb_7 (List.mem_of_getElem? (i := 141) rfl) rfl
theorem wd_1694 : Cond.instanceMethod yX12_pieceOf ∈ tw_l := tb_7 (List.mem_of_getElem? (i := 142) rfl) rfl
theorem wd_1695 : Cond.selects RX12 yX12_pieceOf yX12_pieceOf ∈ tw_l := tb_7 (List.mem_of_getElem? (i := 143) rfl) rfl
theorem wd_1696 : Cond.code yX12_pieceOf cX12_pieceOf 5 (some FieldType.int) ∈ tw_l := tb_7 (List.mem_of_getElem? (i := 144) rfl) rfl
theorem wd_1697 : Cond.methodLink RL 91 yX12_linking ∈ tw_l := tb_7 (List.mem_of_getElem? (i := 145) rfl) rfl
theorem wd_1698 : Cond.instanceMethod yX12_linking ∈ tw_l := tb_7 (List.mem_of_getElem? (i := 146) rfl) rfl
theorem wd_1699 : Cond.selects RX12 yX12_linking yX12_linking ∈ tw_l := tb_7 (List.mem_of_getElem? (i := 147) rfl) rfl
theorem wd_1700 : Cond.code yX12_linking cX12_linking 10 (some FieldType.int) ∈ tw_l := tb_7 (List.mem_of_getElem? (i := 148) rfl) rfl
theorem wd_1701 : Cond.methodLink RL 95 yX12_colours ∈ tw_l := tb_7 (List.mem_of_getElem? (i := 149) rfl) rfl
theorem wd_1702 : Cond.instanceMethod yX12_colours ∈ tw_l := tb_7 (List.mem_of_getElem? (i := 150) rfl) rfl
theorem wd_1703 : Cond.selects RX12 yX12_colours yX12_colours ∈ tw_l := tb_7 (List.mem_of_getElem? (i := 151) rfl) rfl
theorem wd_1704 : Cond.code yX12_colours cX12_colours 4 (some FieldType.int) ∈ tw_l := tb_7 (List.mem_of_getElem? (i := 152) rfl) rfl
theorem wd_1705 : Cond.methodLink RX12 247 yX12_coloursOf ∈ tw_l := tb_7 (List.mem_of_getElem? (i := 153) rfl) rfl
theorem wd_1707 : Cond.instanceMethod yX12_coloursOf ∈ tw_l := tb_7 (List.mem_of_getElem? (i := 155) rfl) rfl
theorem wd_1708 : Cond.code yX12_coloursOf cX12_coloursOf 8 (some FieldType.int) ∈ tw_l := tb_7 (List.mem_of_getElem? (i := 156) rfl) rfl
theorem wd_1709 : Cond.methodLink RX12 243 yX12_clears ∈ tw_l := tb_7 (List.mem_of_getElem? (i := 157) rfl) rfl
theorem wd_1710 : Cond.static yX12_clears ∈ tw_l := tb_7 (List.mem_of_getElem? (i := 158) rfl) rfl
theorem wd_1711 : Cond.code yX12_clears cX12_clears 10 (Option.none : Option FieldType) ∈ tw_l := tb_7 (List.mem_of_getElem? (i := 159) rfl) rfl
theorem wd_1712 : Cond.methodLink RL 99 yX12_bracket ∈ tw_l := tb_7 (List.mem_of_getElem? (i := 160) rfl) rfl
theorem wd_1713 : Cond.instanceMethod yX12_bracket ∈ tw_l := tb_7 (List.mem_of_getElem? (i := 161) rfl) rfl
theorem wd_1714 : Cond.selects RX12 yX12_bracket yX12_bracket ∈ tw_l := tb_7 (List.mem_of_getElem? (i := 162) rfl) rfl
theorem wd_1715 : Cond.code yX12_bracket cX12_bracket 3 (some FieldType.int) ∈ tw_l := tb_7 (List.mem_of_getElem? (i := 163) rfl) rfl
theorem wd_1716 : Cond.methodLink RX12 267 yX12_spends ∈ tw_l := tb_7 (List.mem_of_getElem? (i := 164) rfl) rfl
theorem wd_1718 : Cond.instanceMethod yX12_spends ∈ tw_l := tb_7 (List.mem_of_getElem? (i := 166) rfl) rfl
theorem wd_1719 : Cond.code yX12_spends cX12_spends 4 (some FieldType.int) ∈ tw_l := tb_7 (List.mem_of_getElem? (i := 167) rfl) rfl
theorem wd_1720 : Cond.constant RX12 262 (1000000) ∈ tw_l := tb_7 (List.mem_of_getElem? (i := 168) rfl) rfl
theorem wd_1721 : Cond.methodLink RX12 259 yX12_bracketOf ∈ tw_l := tb_7 (List.mem_of_getElem? (i := 169) rfl) rfl
theorem wd_1723 : Cond.instanceMethod yX12_bracketOf ∈ tw_l := tb_7 (List.mem_of_getElem? (i := 171) rfl) rfl
theorem wd_1724 : Cond.code yX12_bracketOf cX12_bracketOf 9 (Option.none : Option FieldType) ∈ tw_l := tb_7 (List.mem_of_getElem? (i := 172) rfl) rfl
theorem wd_1725 : Cond.methodLink RX12 253 yX12_circlesOf ∈ tw_l := tb_7 (List.mem_of_getElem? (i := 173) rfl) rfl
theorem wd_1727 : Cond.instanceMethod yX12_circlesOf ∈ tw_l := tb_7 (List.mem_of_getElem? (i := 175) rfl) rfl
theorem wd_1728 : Cond.code yX12_circlesOf cX12_circlesOf 8 (some FieldType.int) ∈ tw_l := tb_7 (List.mem_of_getElem? (i := 176) rfl) rfl
theorem wd_1729 : Cond.methodLink RX12 256 yX12_timesCircle ∈ tw_l := tb_7 (List.mem_of_getElem? (i := 177) rfl) rfl
theorem wd_1731 : Cond.instanceMethod yX12_timesCircle ∈ tw_l := tb_7 (List.mem_of_getElem? (i := 179) rfl) rfl
theorem wd_1732 : Cond.code yX12_timesCircle cX12_timesCircle 2 (Option.none : Option FieldType) ∈ tw_l := tb_7 (List.mem_of_getElem? (i := 180) rfl) rfl
theorem wd_1733 : Cond.methodLink RX12 270 yX12_shown ∈ tw_l := tb_7 (List.mem_of_getElem? (i := 181) rfl) rfl
theorem wd_1735 : Cond.instanceMethod yX12_shown ∈ tw_l := tb_7 (List.mem_of_getElem? (i := 183) rfl) rfl
theorem wd_1736 : Cond.code yX12_shown cX12_shown 3 (some FieldType.int) ∈ tw_l := tb_7 (List.mem_of_getElem? (i := 184) rfl) rfl
theorem wd_1737 : Cond.methodLink RL 103 yX12_polynomial ∈ tw_l := tb_7 (List.mem_of_getElem? (i := 185) rfl) rfl
theorem wd_1738 : Cond.instanceMethod yX12_polynomial ∈ tw_l := tb_7 (List.mem_of_getElem? (i := 186) rfl) rfl
theorem wd_1739 : Cond.selects RX12 yX12_polynomial yX12_polynomial ∈ tw_l := tb_7 (List.mem_of_getElem? (i := 187) rfl) rfl
theorem wd_1740 : Cond.code yX12_polynomial cX12_polynomial 3 (some FieldType.int) ∈ tw_l := tb_7 (List.mem_of_getElem? (i := 188) rfl) rfl
theorem wd_1741 : Cond.methodLink RX12 274 yX12_polynomialOf ∈ tw_l := tb_7 (List.mem_of_getElem? (i := 189) rfl) rfl
theorem wd_1743 : Cond.instanceMethod yX12_polynomialOf ∈ tw_l := tb_7 (List.mem_of_getElem? (i := 191) rfl) rfl
theorem wd_1744 : Cond.code yX12_polynomialOf cX12_polynomialOf 4 (Option.none : Option FieldType) ∈ tw_l := tb_7 (List.mem_of_getElem? (i := 192) rfl) rfl
theorem wd_1745 : Cond.methodLink RL 108 yX12_at ∈ tw_l := tb_7 (List.mem_of_getElem? (i := 193) rfl) rfl
theorem wd_1746 : Cond.instanceMethod yX12_at ∈ tw_l := tb_7 (List.mem_of_getElem? (i := 194) rfl) rfl
theorem wd_1747 : Cond.selects RX12 yX12_at yX12_at ∈ tw_l := tb_7 (List.mem_of_getElem? (i := 195) rfl) rfl
theorem wd_1748 : Cond.code yX12_at cX12_at 2 (some FieldType.long) ∈ tw_l := tb_7 (List.mem_of_getElem? (i := 196) rfl) rfl
theorem wd_1749 : Cond.constantLong RX12 277 (-300) ∈ tw_l := tb_7 (List.mem_of_getElem? (i := 197) rfl) rfl
theorem wd_1750 : Cond.constantLong RX12 279 (300) ∈ tw_l := tb_7 (List.mem_of_getElem? (i := 198) rfl) rfl
theorem wd_1751 : Cond.methodLink RL 112 yX12_power ∈ tw_l := tb_7 (List.mem_of_getElem? (i := 199) rfl) rfl
theorem wd_1752 : Cond.instanceMethod yX12_power ∈ tw_l := tb_7 (List.mem_of_getElem? (i := 200) rfl) rfl
theorem wd_1753 : Cond.selects RX12 yX12_power yX12_power ∈ tw_l := tb_7 (List.mem_of_getElem? (i := 201) rfl) rfl
theorem wd_1754 : Cond.code yX12_power cX12_power 4 (some FieldType.int) ∈ tw_l := tb_7 (List.mem_of_getElem? (i := 202) rfl) rfl
theorem wd_1755 : Cond.methodLink RL 116 yX12_determinant ∈ tw_l := tb_7 (List.mem_of_getElem? (i := 203) rfl) rfl
theorem wd_1756 : Cond.instanceMethod yX12_determinant ∈ tw_l := tb_7 (List.mem_of_getElem? (i := 204) rfl) rfl
theorem wd_1757 : Cond.selects RX12 yX12_determinant yX12_determinant ∈ tw_l := tb_7 (List.mem_of_getElem? (i := 205) rfl) rfl
theorem wd_1758 : Cond.code yX12_determinant cX12_determinant 7 (some FieldType.long) ∈ tw_l := tb_7 (List.mem_of_getElem? (i := 206) rfl) rfl
theorem wd_1759 : Cond.methodLink RL 120 yX12_gauss ∈ tw_l := tb_7 (List.mem_of_getElem? (i := 207) rfl) rfl
theorem wd_1760 : Cond.instanceMethod yX12_gauss ∈ tw_l := tb_7 (List.mem_of_getElem? (i := 208) rfl) rfl
theorem wd_1761 : Cond.selects RX12 yX12_gauss yX12_gauss ∈ tw_l := tb_7 (List.mem_of_getElem? (i := 209) rfl) rfl
theorem wd_1762 : Cond.code yX12_gauss cX12_gauss 8 (some FieldType.int) ∈ tw_l := tb_7 (List.mem_of_getElem? (i := 210) rfl) rfl
theorem wd_1763 : Cond.methodLink RL 124 yX12_type ∈ tw_l := tb_7 (List.mem_of_getElem? (i := 211) rfl) rfl
theorem wd_1764 : Cond.instanceMethod yX12_type ∈ tw_l := tb_7 (List.mem_of_getElem? (i := 212) rfl) rfl
theorem wd_1765 : Cond.selects RX12 yX12_type yX12_type ∈ tw_l := tb_7 (List.mem_of_getElem? (i := 213) rfl) rfl
theorem wd_1766 : Cond.code yX12_type cX12_type 2 (some FieldType.int) ∈ tw_l := tb_7 (List.mem_of_getElem? (i := 214) rfl) rfl
theorem wd_1767 : Cond.methodLink RL 128 yX12_clear ∈ tw_l := tb_7 (List.mem_of_getElem? (i := 215) rfl) rfl
theorem wd_1768 : Cond.instanceMethod yX12_clear ∈ tw_l := tb_7 (List.mem_of_getElem? (i := 216) rfl) rfl
theorem wd_1769 : Cond.selects RX12 yX12_clear yX12_clear ∈ tw_l := tb_7 (List.mem_of_getElem? (i := 217) rfl) rfl
theorem wd_1770 : Cond.code yX12_clear cX12_clear 2 (some FieldType.int) ∈ tw_l := tb_7 (List.mem_of_getElem? (i := 218) rfl) rfl
theorem wd_1771 : Cond.methodLink RL 132 yX12_item ∈ tw_l := tb_7 (List.mem_of_getElem? (i := 219) rfl) rfl
theorem wd_1772 : Cond.instanceMethod yX12_item ∈ tw_l := tb_7 (List.mem_of_getElem? (i := 220) rfl) rfl
theorem wd_1773 : Cond.selects RX12 yX12_item yX12_item ∈ tw_l := tb_7 (List.mem_of_getElem? (i := 221) rfl) rfl
theorem wd_1774 : Cond.code yX12_item cX12_item 2 (some FieldType.int) ∈ tw_l := tb_7 (List.mem_of_getElem? (i := 222) rfl) rfl
theorem wd_1775 : Cond.methodLink RL 136 yX12_ofGauss ∈ tw_l := tb_7 (List.mem_of_getElem? (i := 223) rfl) rfl
theorem wd_1776 : Cond.instanceMethod yX12_ofGauss ∈ tw_l := tb_7 (List.mem_of_getElem? (i := 224) rfl) rfl
theorem wd_1777 : Cond.selects RX12 yX12_ofGauss yX12_ofGauss ∈ tw_l := tb_7 (List.mem_of_getElem? (i := 225) rfl) rfl
theorem wd_1778 : Cond.code yX12_ofGauss cX12_ofGauss 1 (some FieldType.int) ∈ tw_l := tb_7 (List.mem_of_getElem? (i := 226) rfl) rfl
theorem wd_1779 : Cond.methodLink RX12 293 yX12_readsGauss ∈ tw_l := tb_7 (List.mem_of_getElem? (i := 227) rfl) rfl
theorem wd_1781 : Cond.instanceMethod yX12_readsGauss ∈ tw_l := tb_7 (List.mem_of_getElem? (i := 229) rfl) rfl
theorem wd_1782 : Cond.code yX12_readsGauss cX12_readsGauss 5 (some FieldType.boolean) ∈ tw_l := tb_7 (List.mem_of_getElem? (i := 230) rfl) rfl
theorem wd_1783 : Cond.methodLink RX12 290 yX12_passes ∈ tw_l := tb_7 (List.mem_of_getElem? (i := 231) rfl) rfl
theorem wd_1785 : Cond.instanceMethod yX12_passes ∈ tw_l := tb_7 (List.mem_of_getElem? (i := 233) rfl) rfl
theorem wd_1786 : Cond.code yX12_passes cX12_passes 6 (some FieldType.int) ∈ tw_l := tb_7 (List.mem_of_getElem? (i := 234) rfl) rfl
theorem wd_1787 : Cond.constantLong RX12 284 (-11) ∈ tw_l := tb_7 (List.mem_of_getElem? (i := 235) rfl) rfl
theorem wd_1788 : Cond.constantLong RX12 286 (-2) ∈ tw_l := tb_7 (List.mem_of_getElem? (i := 236) rfl) rfl
theorem wd_1789 : Cond.constantLong RX12 288 (159) ∈ tw_l := tb_7 (List.mem_of_getElem? (i := 237) rfl) rfl
theorem wd_1790 : Cond.methodLink RX12 297 yX12_added ∈ tw_l := tb_7 (List.mem_of_getElem? (i := 238) rfl) rfl
theorem wd_1792 : Cond.instanceMethod yX12_added ∈ tw_l := tb_8 (List.mem_of_getElem? (i := 0) rfl) rfl
theorem wd_1793 : Cond.code yX12_added cX12_added 2 (some FieldType.int) ∈ tw_l := tb_8 (List.mem_of_getElem? (i := 1) rfl) rfl
theorem wd_1794 : Cond.methodLink RX12 176 yX12_copySlot ∈ tw_l := tb_8 (List.mem_of_getElem? (i := 2) rfl) rfl
theorem wd_1796 : Cond.instanceMethod yX12_copySlot ∈ tw_l := tb_8 (List.mem_of_getElem? (i := 4) rfl) rfl
theorem wd_1797 : Cond.code yX12_copySlot cX12_copySlot 4 (Option.none : Option FieldType) ∈ tw_l := tb_8 (List.mem_of_getElem? (i := 5) rfl) rfl
theorem wd_1798 : Cond.methodLink RL 140 yX12_move ∈ tw_l := tb_8 (List.mem_of_getElem? (i := 6) rfl) rfl
theorem wd_1799 : Cond.instanceMethod yX12_move ∈ tw_l := tb_8 (List.mem_of_getElem? (i := 7) rfl) rfl
theorem wd_1800 : Cond.selects RX12 yX12_move yX12_move ∈ tw_l := tb_8 (List.mem_of_getElem? (i := 8) rfl) rfl
theorem wd_1801 : Cond.code yX12_move cX12_move 5 (some FieldType.int) ∈ tw_l := tb_8 (List.mem_of_getElem? (i := 9) rfl) rfl
theorem wd_1802 : Cond.methodLink RL 144 yX12_tells ∈ tw_l := tb_8 (List.mem_of_getElem? (i := 10) rfl) rfl
theorem wd_1803 : Cond.instanceMethod yX12_tells ∈ tw_l := tb_8 (List.mem_of_getElem? (i := 11) rfl) rfl
theorem wd_1804 : Cond.selects RX12 yX12_tells yX12_tells ∈ tw_l := tb_8 (List.mem_of_getElem? (i := 12) rfl) rfl
theorem wd_1805 : Cond.code yX12_tells cX12_tells 4 (some FieldType.int) ∈ tw_l := tb_8 (List.mem_of_getElem? (i := 13) rfl) rfl
theorem wd_1806 : Cond.methodLink RX12 371 yX12_isMove ∈ tw_l := tb_8 (List.mem_of_getElem? (i := 14) rfl) rfl
theorem wd_1808 : Cond.instanceMethod yX12_isMove ∈ tw_l := tb_8 (List.mem_of_getElem? (i := 16) rfl) rfl
theorem wd_1809 : Cond.code yX12_isMove cX12_isMove 2 (some FieldType.boolean) ∈ tw_l := tb_8 (List.mem_of_getElem? (i := 17) rfl) rfl
theorem wd_1810 : Cond.methodLink RX12 374 yX12_moreOf ∈ tw_l := tb_8 (List.mem_of_getElem? (i := 18) rfl) rfl
theorem wd_1812 : Cond.instanceMethod yX12_moreOf ∈ tw_l := tb_8 (List.mem_of_getElem? (i := 20) rfl) rfl
theorem wd_1813 : Cond.code yX12_moreOf cX12_moreOf 2 (some FieldType.int) ∈ tw_l := tb_8 (List.mem_of_getElem? (i := 21) rfl) rfl
theorem wd_1814 : Cond.methodLink RX12 377 yX12_body ∈ tw_l := tb_8 (List.mem_of_getElem? (i := 22) rfl) rfl
theorem wd_1816 : Cond.instanceMethod yX12_body ∈ tw_l := tb_8 (List.mem_of_getElem? (i := 24) rfl) rfl
theorem wd_1817 : Cond.code yX12_body cX12_body 2 (Option.none : Option FieldType) ∈ tw_l := tb_8 (List.mem_of_getElem? (i := 25) rfl) rfl
theorem wd_1818 : Cond.methodLink RL 164 yX12_trace ∈ tw_l := tb_8 (List.mem_of_getElem? (i := 26) rfl) rfl
theorem wd_1819 : Cond.instanceMethod yX12_trace ∈ tw_l := tb_8 (List.mem_of_getElem? (i := 27) rfl) rfl
theorem wd_1820 : Cond.selects RX12 yX12_trace yX12_trace ∈ tw_l := tb_8 (List.mem_of_getElem? (i := 28) rfl) rfl
theorem wd_1821 : Cond.code yX12_trace cX12_trace 2 (some FieldType.int) ∈ tw_l := tb_8 (List.mem_of_getElem? (i := 29) rfl) rfl
theorem wd_1822 : Cond.methodLink RL 148 yX12_as ∈ tw_l := tb_8 (List.mem_of_getElem? (i := 30) rfl) rfl
theorem wd_1823 : Cond.instanceMethod yX12_as ∈ tw_l := tb_8 (List.mem_of_getElem? (i := 31) rfl) rfl
theorem wd_1824 : Cond.selects RX12 yX12_as yX12_as ∈ tw_l := tb_8 (List.mem_of_getElem? (i := 32) rfl) rfl
theorem wd_1825 : Cond.code yX12_as cX12_as 5 (some FieldType.int) ∈ tw_l := tb_8 (List.mem_of_getElem? (i := 33) rfl) rfl
theorem wd_1826 : Cond.methodLink RL 152 yX12_may ∈ tw_l := tb_8 (List.mem_of_getElem? (i := 34) rfl) rfl
theorem wd_1827 : Cond.instanceMethod yX12_may ∈ tw_l := tb_8 (List.mem_of_getElem? (i := 35) rfl) rfl
theorem wd_1828 : Cond.selects RX12 yX12_may yX12_may ∈ tw_l := tb_8 (List.mem_of_getElem? (i := 36) rfl) rfl
theorem wd_1829 : Cond.code yX12_may cX12_may 4 (some FieldType.int) ∈ tw_l := tb_8 (List.mem_of_getElem? (i := 37) rfl) rfl
theorem wd_1830 : Cond.methodLink RX12 387 yX12_tried ∈ tw_l := tb_8 (List.mem_of_getElem? (i := 38) rfl) rfl
theorem wd_1832 : Cond.instanceMethod yX12_tried ∈ tw_l := tb_8 (List.mem_of_getElem? (i := 40) rfl) rfl
theorem wd_1833 : Cond.code yX12_tried cX12_tried 7 (some FieldType.int) ∈ tw_l := tb_8 (List.mem_of_getElem? (i := 41) rfl) rfl
theorem wd_1834 : Cond.methodLink RX12 380 yX12_unmoved ∈ tw_l := tb_8 (List.mem_of_getElem? (i := 42) rfl) rfl
theorem wd_1836 : Cond.instanceMethod yX12_unmoved ∈ tw_l := tb_8 (List.mem_of_getElem? (i := 44) rfl) rfl
theorem wd_1837 : Cond.code yX12_unmoved cX12_unmoved 4 (some FieldType.int) ∈ tw_l := tb_8 (List.mem_of_getElem? (i := 45) rfl) rfl
theorem wd_1838 : Cond.methodLink RX12 359 yX12_untwist ∈ tw_l := tb_8 (List.mem_of_getElem? (i := 46) rfl) rfl
theorem wd_1840 : Cond.instanceMethod yX12_untwist ∈ tw_l := tb_8 (List.mem_of_getElem? (i := 48) rfl) rfl
theorem wd_1841 : Cond.code yX12_untwist cX12_untwist 2 (some FieldType.int) ∈ tw_l := tb_8 (List.mem_of_getElem? (i := 49) rfl) rfl
theorem wd_1842 : Cond.methodLink RX12 301 yX12_isEnd ∈ tw_l := tb_8 (List.mem_of_getElem? (i := 50) rfl) rfl
theorem wd_1844 : Cond.instanceMethod yX12_isEnd ∈ tw_l := tb_8 (List.mem_of_getElem? (i := 52) rfl) rfl
theorem wd_1845 : Cond.code yX12_isEnd cX12_isEnd 3 (some FieldType.boolean) ∈ tw_l := tb_8 (List.mem_of_getElem? (i := 53) rfl) rfl
theorem wd_1846 : Cond.methodLink RX12 310 yX12_arcAt ∈ tw_l := tb_8 (List.mem_of_getElem? (i := 54) rfl) rfl
theorem wd_1848 : Cond.instanceMethod yX12_arcAt ∈ tw_l := tb_8 (List.mem_of_getElem? (i := 56) rfl) rfl
theorem wd_1849 : Cond.code yX12_arcAt cX12_arcAt 2 (some FieldType.int) ∈ tw_l := tb_8 (List.mem_of_getElem? (i := 57) rfl) rfl
theorem wd_1850 : Cond.constant RX12 300 (58240) ∈ tw_l := tb_8 (List.mem_of_getElem? (i := 58) rfl) rfl
theorem wd_1851 : Cond.methodLink RX12 313 yX12_joinArcs ∈ tw_l := tb_8 (List.mem_of_getElem? (i := 59) rfl) rfl
theorem wd_1853 : Cond.instanceMethod yX12_joinArcs ∈ tw_l := tb_8 (List.mem_of_getElem? (i := 61) rfl) rfl
theorem wd_1854 : Cond.code yX12_joinArcs cX12_joinArcs 5 (Option.none : Option FieldType) ∈ tw_l := tb_8 (List.mem_of_getElem? (i := 62) rfl) rfl
theorem wd_1855 : Cond.methodLink RX12 317 yX12_takeOut ∈ tw_l := tb_8 (List.mem_of_getElem? (i := 63) rfl) rfl
theorem wd_1857 : Cond.instanceMethod yX12_takeOut ∈ tw_l := tb_8 (List.mem_of_getElem? (i := 65) rfl) rfl
theorem wd_1858 : Cond.code yX12_takeOut cX12_takeOut 4 (Option.none : Option FieldType) ∈ tw_l := tb_8 (List.mem_of_getElem? (i := 66) rfl) rfl
theorem wd_1859 : Cond.methodLink RX12 320 yX12_full ∈ tw_l := tb_8 (List.mem_of_getElem? (i := 67) rfl) rfl
theorem wd_1861 : Cond.instanceMethod yX12_full ∈ tw_l := tb_8 (List.mem_of_getElem? (i := 69) rfl) rfl
theorem wd_1862 : Cond.code yX12_full cX12_full 1 (some FieldType.int) ∈ tw_l := tb_8 (List.mem_of_getElem? (i := 70) rfl) rfl
theorem wd_1863 : Cond.methodLink RX12 362 yX12_unpoke ∈ tw_l := tb_8 (List.mem_of_getElem? (i := 71) rfl) rfl
theorem wd_1865 : Cond.instanceMethod yX12_unpoke ∈ tw_l := tb_8 (List.mem_of_getElem? (i := 73) rfl) rfl
theorem wd_1866 : Cond.code yX12_unpoke cX12_unpoke 6 (some FieldType.int) ∈ tw_l := tb_8 (List.mem_of_getElem? (i := 74) rfl) rfl
theorem wd_1867 : Cond.methodLink RX12 347 yX12_slide ∈ tw_l := tb_8 (List.mem_of_getElem? (i := 75) rfl) rfl
theorem wd_1869 : Cond.instanceMethod yX12_slide ∈ tw_l := tb_8 (List.mem_of_getElem? (i := 77) rfl) rfl
theorem wd_1870 : Cond.code yX12_slide cX12_slide 5 (some FieldType.int) ∈ tw_l := tb_8 (List.mem_of_getElem? (i := 78) rfl) rfl
theorem wd_1871 : Cond.methodLink RX12 326 yX12_goesOver ∈ tw_l := tb_8 (List.mem_of_getElem? (i := 79) rfl) rfl
theorem wd_1873 : Cond.instanceMethod yX12_goesOver ∈ tw_l := tb_8 (List.mem_of_getElem? (i := 81) rfl) rfl
theorem wd_1874 : Cond.code yX12_goesOver cX12_goesOver 2 (some FieldType.boolean) ∈ tw_l := tb_8 (List.mem_of_getElem? (i := 82) rfl) rfl
theorem wd_1875 : Cond.methodLink RX12 329 yX12_slides ∈ tw_l := tb_8 (List.mem_of_getElem? (i := 83) rfl) rfl
theorem wd_1877 : Cond.instanceMethod yX12_slides ∈ tw_l := tb_8 (List.mem_of_getElem? (i := 85) rfl) rfl
theorem wd_1878 : Cond.code yX12_slides cX12_slides 4 (Option.none : Option FieldType) ∈ tw_l := tb_8 (List.mem_of_getElem? (i := 86) rfl) rfl
theorem wd_1879 : Cond.methodLink RX12 350 yX12_flype ∈ tw_l := tb_8 (List.mem_of_getElem? (i := 87) rfl) rfl
theorem wd_1881 : Cond.instanceMethod yX12_flype ∈ tw_l := tb_8 (List.mem_of_getElem? (i := 89) rfl) rfl
theorem wd_1882 : Cond.code yX12_flype cX12_flype 16 (some FieldType.int) ∈ tw_l := tb_8 (List.mem_of_getElem? (i := 90) rfl) rfl
theorem wd_1883 : Cond.methodLink RX12 332 yX12_has ∈ tw_l := tb_8 (List.mem_of_getElem? (i := 91) rfl) rfl
theorem wd_1884 : Cond.static yX12_has ∈ tw_l := tb_8 (List.mem_of_getElem? (i := 92) rfl) rfl
theorem wd_1885 : Cond.code yX12_has cX12_has 2 (some FieldType.boolean) ∈ tw_l := tb_8 (List.mem_of_getElem? (i := 93) rfl) rfl
theorem wd_1886 : Cond.methodLink RX12 335 yX12_wayOut ∈ tw_l := tb_8 (List.mem_of_getElem? (i := 94) rfl) rfl
theorem wd_1888 : Cond.instanceMethod yX12_wayOut ∈ tw_l := tb_8 (List.mem_of_getElem? (i := 96) rfl) rfl
theorem wd_1889 : Cond.code yX12_wayOut cX12_wayOut 6 (some FieldType.int) ∈ tw_l := tb_8 (List.mem_of_getElem? (i := 97) rfl) rfl
theorem wd_1890 : Cond.methodLink RX12 338 yX12_turnOver ∈ tw_l := tb_8 (List.mem_of_getElem? (i := 98) rfl) rfl
theorem wd_1892 : Cond.instanceMethod yX12_turnOver ∈ tw_l := tb_8 (List.mem_of_getElem? (i := 100) rfl) rfl
theorem wd_1893 : Cond.code yX12_turnOver cX12_turnOver 5 (Option.none : Option FieldType) ∈ tw_l := tb_8 (List.mem_of_getElem? (i := 101) rfl) rfl
theorem wd_1894 : Cond.methodLink RX12 356 yX12_rotate ∈ tw_l := tb_8 (List.mem_of_getElem? (i := 102) rfl) rfl
theorem wd_1896 : Cond.instanceMethod yX12_rotate ∈ tw_l := tb_8 (List.mem_of_getElem? (i := 104) rfl) rfl
theorem wd_1897 : Cond.code yX12_rotate cX12_rotate 6 (some FieldType.int) ∈ tw_l := tb_8 (List.mem_of_getElem? (i := 105) rfl) rfl
theorem wd_1898 : Cond.methodLink RX12 383 yX12_moved ∈ tw_l := tb_8 (List.mem_of_getElem? (i := 106) rfl) rfl
theorem wd_1900 : Cond.instanceMethod yX12_moved ∈ tw_l := tb_8 (List.mem_of_getElem? (i := 108) rfl) rfl
theorem wd_1901 : Cond.code yX12_moved cX12_moved 5 (some FieldType.int) ∈ tw_l := tb_8 (List.mem_of_getElem? (i := 109) rfl) rfl
theorem wd_1902 : Cond.methodLink RX12 341 yX12_twist ∈ tw_l := tb_8 (List.mem_of_getElem? (i := 110) rfl) rfl
theorem wd_1904 : Cond.instanceMethod yX12_twist ∈ tw_l := tb_8 (List.mem_of_getElem? (i := 112) rfl) rfl
theorem wd_1905 : Cond.code yX12_twist cX12_twist 7 (some FieldType.int) ∈ tw_l := tb_8 (List.mem_of_getElem? (i := 113) rfl) rfl
theorem wd_1906 : Cond.constantLong RX12 305 (3) ∈ tw_l := tb_8 (List.mem_of_getElem? (i := 114) rfl) rfl
theorem wd_1907 : Cond.methodLink RX12 307 yX12_free ∈ tw_l := tb_8 (List.mem_of_getElem? (i := 115) rfl) rfl
theorem wd_1909 : Cond.instanceMethod yX12_free ∈ tw_l := tb_8 (List.mem_of_getElem? (i := 117) rfl) rfl
theorem wd_1910 : Cond.code yX12_free cX12_free 4 (some FieldType.int) ∈ tw_l := tb_8 (List.mem_of_getElem? (i := 118) rfl) rfl
theorem wd_1911 : Cond.methodLink RX12 344 yX12_poke ∈ tw_l := tb_8 (List.mem_of_getElem? (i := 119) rfl) rfl
theorem wd_1913 : Cond.instanceMethod yX12_poke ∈ tw_l := tb_8 (List.mem_of_getElem? (i := 121) rfl) rfl
theorem wd_1914 : Cond.code yX12_poke cX12_poke 10 (some FieldType.int) ∈ tw_l := tb_8 (List.mem_of_getElem? (i := 122) rfl) rfl
theorem wd_1915 : Cond.methodLink RX12 323 yX12_isOfFace ∈ tw_l := tb_8 (List.mem_of_getElem? (i := 123) rfl) rfl
theorem wd_1917 : Cond.instanceMethod yX12_isOfFace ∈ tw_l := tb_8 (List.mem_of_getElem? (i := 125) rfl) rfl
theorem wd_1918 : Cond.code yX12_isOfFace cX12_isOfFace 5 (some FieldType.boolean) ∈ tw_l := tb_8 (List.mem_of_getElem? (i := 126) rfl) rfl
theorem wd_1919 : Cond.methodLink RX12 353 yX12_smooth ∈ tw_l := tb_8 (List.mem_of_getElem? (i := 127) rfl) rfl
theorem wd_1921 : Cond.instanceMethod yX12_smooth ∈ tw_l := tb_8 (List.mem_of_getElem? (i := 129) rfl) rfl
theorem wd_1922 : Cond.code yX12_smooth cX12_smooth 3 (some FieldType.int) ∈ tw_l := tb_8 (List.mem_of_getElem? (i := 130) rfl) rfl
theorem wd_1923 : Cond.methodLink RL 156 yX12_does ∈ tw_l := tb_8 (List.mem_of_getElem? (i := 131) rfl) rfl
theorem wd_1924 : Cond.instanceMethod yX12_does ∈ tw_l := tb_8 (List.mem_of_getElem? (i := 132) rfl) rfl
theorem wd_1925 : Cond.selects RX12 yX12_does yX12_does ∈ tw_l := tb_8 (List.mem_of_getElem? (i := 133) rfl) rfl
theorem wd_1926 : Cond.code yX12_does cX12_does 4 (some FieldType.int) ∈ tw_l := tb_8 (List.mem_of_getElem? (i := 134) rfl) rfl
theorem wd_1927 : Cond.methodLink RX12 391 yX12_replaced ∈ tw_l := tb_8 (List.mem_of_getElem? (i := 135) rfl) rfl
theorem wd_1929 : Cond.instanceMethod yX12_replaced ∈ tw_l := tb_8 (List.mem_of_getElem? (i := 137) rfl) rfl
theorem wd_1930 : Cond.code yX12_replaced cX12_replaced 4 (Option.none : Option FieldType) ∈ tw_l := tb_8 (List.mem_of_getElem? (i := 138) rfl) rfl
theorem wd_1931 : Cond.methodLink RL 160 yX12_undoes ∈ tw_l := tb_8 (List.mem_of_getElem? (i := 139) rfl) rfl
theorem wd_1932 : Cond.instanceMethod yX12_undoes ∈ tw_l := tb_8 (List.mem_of_getElem? (i := 140) rfl) rfl
theorem wd_1933 : Cond.selects RX12 yX12_undoes yX12_undoes ∈ tw_l := tb_8 (List.mem_of_getElem? (i := 141) rfl) rfl
theorem wd_1934 : Cond.code yX12_undoes cX12_undoes 4 (some FieldType.int) ∈ tw_l := tb_8 (List.mem_of_getElem? (i := 142) rfl) rfl
theorem wd_1935 : Cond.methodLink RL 63 yX12_mirror ∈ tw_l := tb_8 (List.mem_of_getElem? (i := 143) rfl) rfl
theorem wd_1936 : Cond.instanceMethod yX12_mirror ∈ tw_l := tb_8 (List.mem_of_getElem? (i := 144) rfl) rfl
theorem wd_1937 : Cond.selects RX12 yX12_mirror yX12_mirror ∈ tw_l := tb_8 (List.mem_of_getElem? (i := 145) rfl) rfl
theorem wd_1938 : Cond.code yX12_mirror cX12_mirror 2 (some FieldType.int) ∈ tw_l := tb_8 (List.mem_of_getElem? (i := 146) rfl) rfl
theorem wd_1939 : Cond.methodLink RX12 394 yX12_allTurned ∈ tw_l := tb_8 (List.mem_of_getElem? (i := 147) rfl) rfl
theorem wd_1941 : Cond.instanceMethod yX12_allTurned ∈ tw_l := tb_8 (List.mem_of_getElem? (i := 149) rfl) rfl
theorem wd_1942 : Cond.code yX12_allTurned cX12_allTurned 6 (some FieldType.int) ∈ tw_l := tb_8 (List.mem_of_getElem? (i := 150) rfl) rfl
theorem wd_1943 : Cond.methodLink RL 67 yX12_turn ∈ tw_l := tb_8 (List.mem_of_getElem? (i := 151) rfl) rfl
theorem wd_1944 : Cond.instanceMethod yX12_turn ∈ tw_l := tb_8 (List.mem_of_getElem? (i := 152) rfl) rfl
theorem wd_1945 : Cond.selects RX12 yX12_turn yX12_turn ∈ tw_l := tb_8 (List.mem_of_getElem? (i := 153) rfl) rfl
theorem wd_1946 : Cond.code yX12_turn cX12_turn 2 (some FieldType.int) ∈ tw_l := tb_8 (List.mem_of_getElem? (i := 154) rfl) rfl
theorem wd_1947 : Cond.methodLink RL 79 yX12_undo ∈ tw_l := tb_8 (List.mem_of_getElem? (i := 155) rfl) rfl
theorem wd_1948 : Cond.instanceMethod yX12_undo ∈ tw_l := tb_8 (List.mem_of_getElem? (i := 156) rfl) rfl
theorem wd_1949 : Cond.selects RX12 yX12_undo yX12_undo ∈ tw_l := tb_8 (List.mem_of_getElem? (i := 157) rfl) rfl
theorem wd_1950 : Cond.code yX12_undo cX12_undo 2 (some FieldType.int) ∈ tw_l := tb_8 (List.mem_of_getElem? (i := 158) rfl) rfl
theorem wd_1951 : Cond.methodLink RL 75 yX12_twin ∈ tw_l := tb_8 (List.mem_of_getElem? (i := 159) rfl) rfl
theorem wd_1952 : Cond.instanceMethod yX12_twin ∈ tw_l := tb_8 (List.mem_of_getElem? (i := 160) rfl) rfl
theorem wd_1953 : Cond.selects RX12 yX12_twin yX12_twin ∈ tw_l := tb_8 (List.mem_of_getElem? (i := 161) rfl) rfl
theorem wd_1954 : Cond.code yX12_twin cX12_twin 2 (some FieldType.int) ∈ tw_l := tb_8 (List.mem_of_getElem? (i := 162) rfl) rfl
theorem wd_1955 : Cond.methodLink RL 71 yX12_join ∈ tw_l := tb_8 (List.mem_of_getElem? (i := 163) rfl) rfl
theorem wd_1956 : Cond.instanceMethod yX12_join ∈ tw_l := tb_8 (List.mem_of_getElem? (i := 164) rfl) rfl
theorem wd_1957 : Cond.selects RX12 yX12_join yX12_join ∈ tw_l := tb_8 (List.mem_of_getElem? (i := 165) rfl) rfl
theorem wd_1958 : Cond.code yX12_join cX12_join 10 (some FieldType.int) ∈ tw_l := tb_8 (List.mem_of_getElem? (i := 166) rfl) rfl
theorem wd_1959 : Cond.methodLink RX12 398 yX12_fresh ∈ tw_l := tb_8 (List.mem_of_getElem? (i := 167) rfl) rfl
theorem wd_1961 : Cond.instanceMethod yX12_fresh ∈ tw_l := tb_8 (List.mem_of_getElem? (i := 169) rfl) rfl
theorem wd_1962 : Cond.code yX12_fresh cX12_fresh 4 (some FieldType.int) ∈ tw_l := tb_8 (List.mem_of_getElem? (i := 170) rfl) rfl
theorem wd_1963 : Cond.methodLink RL 168 yX12_like ∈ tw_l := tb_8 (List.mem_of_getElem? (i := 171) rfl) rfl
theorem wd_1964 : Cond.instanceMethod yX12_like ∈ tw_l := tb_8 (List.mem_of_getElem? (i := 172) rfl) rfl
theorem wd_1965 : Cond.selects RX12 yX12_like yX12_like ∈ tw_l := tb_8 (List.mem_of_getElem? (i := 173) rfl) rfl
theorem wd_1966 : Cond.code yX12_like cX12_like 3 (some FieldType.int) ∈ tw_l := tb_8 (List.mem_of_getElem? (i := 174) rfl) rfl
theorem wd_1967 : Cond.methodLink RX12 412 yX12_codeInto ∈ tw_l := tb_8 (List.mem_of_getElem? (i := 175) rfl) rfl
theorem wd_1969 : Cond.instanceMethod yX12_codeInto ∈ tw_l := tb_8 (List.mem_of_getElem? (i := 177) rfl) rfl
theorem wd_1970 : Cond.code yX12_codeInto cX12_codeInto 12 (Option.none : Option FieldType) ∈ tw_l := tb_8 (List.mem_of_getElem? (i := 178) rfl) rfl
theorem wd_1971 : Cond.methodLink RX12 401 yX12_walk ∈ tw_l := tb_8 (List.mem_of_getElem? (i := 179) rfl) rfl
theorem wd_1973 : Cond.instanceMethod yX12_walk ∈ tw_l := tb_8 (List.mem_of_getElem? (i := 181) rfl) rfl
theorem wd_1974 : Cond.code yX12_walk cX12_walk 10 (some FieldType.int) ∈ tw_l := tb_8 (List.mem_of_getElem? (i := 182) rfl) rfl
theorem wd_1975 : Cond.methodLink RX12 404 yX12_compare ∈ tw_l := tb_8 (List.mem_of_getElem? (i := 183) rfl) rfl
theorem wd_1976 : Cond.static yX12_compare ∈ tw_l := tb_8 (List.mem_of_getElem? (i := 184) rfl) rfl
theorem wd_1977 : Cond.code yX12_compare cX12_compare 7 (some FieldType.int) ∈ tw_l := tb_8 (List.mem_of_getElem? (i := 185) rfl) rfl
theorem wd_1978 : Cond.methodLink RX12 408 yX12_sortInto ∈ tw_l := tb_8 (List.mem_of_getElem? (i := 186) rfl) rfl
theorem wd_1980 : Cond.instanceMethod yX12_sortInto ∈ tw_l := tb_8 (List.mem_of_getElem? (i := 188) rfl) rfl
theorem wd_1981 : Cond.code yX12_sortInto cX12_sortInto 9 (Option.none : Option FieldType) ∈ tw_l := tb_8 (List.mem_of_getElem? (i := 189) rfl) rfl
theorem wd_1982 : Cond.methodLink RX12 416 yX12_areAlike ∈ tw_l := tb_8 (List.mem_of_getElem? (i := 190) rfl) rfl
theorem wd_1983 : Cond.static yX12_areAlike ∈ tw_l := tb_8 (List.mem_of_getElem? (i := 191) rfl) rfl
theorem wd_1984 : Cond.code yX12_areAlike cX12_areAlike 5 (some FieldType.boolean) ∈ tw_l := tb_8 (List.mem_of_getElem? (i := 192) rfl) rfl
theorem wd_1985 : Cond.methodLink RL 172 yX12_search ∈ tw_l := tb_8 (List.mem_of_getElem? (i := 193) rfl) rfl
theorem wd_1986 : Cond.instanceMethod yX12_search ∈ tw_l := tb_8 (List.mem_of_getElem? (i := 194) rfl) rfl
theorem wd_1987 : Cond.selects RX12 yX12_search yX12_search ∈ tw_l := tb_8 (List.mem_of_getElem? (i := 195) rfl) rfl
theorem wd_1988 : Cond.code yX12_search cX12_search 3 (some FieldType.int) ∈ tw_l := tb_8 (List.mem_of_getElem? (i := 196) rfl) rfl
theorem wd_1989 : Cond.constantLong RX12 444 (5000) ∈ tw_l := tb_8 (List.mem_of_getElem? (i := 197) rfl) rfl
theorem wd_1990 : Cond.methodLink RX12 446 yX12_beginSearch ∈ tw_l := tb_8 (List.mem_of_getElem? (i := 198) rfl) rfl
theorem wd_1992 : Cond.instanceMethod yX12_beginSearch ∈ tw_l := tb_8 (List.mem_of_getElem? (i := 200) rfl) rfl
theorem wd_1993 : Cond.code yX12_beginSearch cX12_beginSearch 2 (Option.none : Option FieldType) ∈ tw_l := tb_8 (List.mem_of_getElem? (i := 201) rfl) rfl
theorem wd_1994 : Cond.methodLink RX12 449 yX12_goes ∈ tw_l := tb_8 (List.mem_of_getElem? (i := 202) rfl) rfl
theorem wd_1996 : Cond.instanceMethod yX12_goes ∈ tw_l := tb_8 (List.mem_of_getElem? (i := 204) rfl) rfl
theorem wd_1997 : Cond.code yX12_goes cX12_goes 6 (some FieldType.int) ∈ tw_l := tb_8 (List.mem_of_getElem? (i := 205) rfl) rfl
theorem wd_1998 : Cond.methodLink RX12 438 yX12_stepped ∈ tw_l := tb_8 (List.mem_of_getElem? (i := 206) rfl) rfl
theorem wd_2000 : Cond.instanceMethod yX12_stepped ∈ tw_l := tb_8 (List.mem_of_getElem? (i := 208) rfl) rfl
theorem wd_2001 : Cond.code yX12_stepped cX12_stepped 3 (some FieldType.int) ∈ tw_l := tb_8 (List.mem_of_getElem? (i := 209) rfl) rfl
theorem wd_2002 : Cond.methodLink RX12 441 yX12_kept ∈ tw_l := tb_8 (List.mem_of_getElem? (i := 210) rfl) rfl
theorem wd_2004 : Cond.instanceMethod yX12_kept ∈ tw_l := tb_8 (List.mem_of_getElem? (i := 212) rfl) rfl
theorem wd_2005 : Cond.code yX12_kept cX12_kept 3 (some FieldType.boolean) ∈ tw_l := tb_8 (List.mem_of_getElem? (i := 213) rfl) rfl
theorem wd_2006 : Cond.methodLink RL 176 yX12_goOn ∈ tw_l := tb_8 (List.mem_of_getElem? (i := 214) rfl) rfl
theorem wd_2007 : Cond.instanceMethod yX12_goOn ∈ tw_l := tb_8 (List.mem_of_getElem? (i := 215) rfl) rfl
theorem wd_2008 : Cond.selects RX12 yX12_goOn yX12_goOn ∈ tw_l := tb_8 (List.mem_of_getElem? (i := 216) rfl) rfl
theorem wd_2009 : Cond.code yX12_goOn cX12_goOn 2 (some FieldType.int) ∈ tw_l := tb_8 (List.mem_of_getElem? (i := 217) rfl) rfl
theorem wd_2010 : Cond.methodLink RL 180 yX12_searched ∈ tw_l := tb_8 (List.mem_of_getElem? (i := 218) rfl) rfl
theorem wd_2011 : Cond.instanceMethod yX12_searched ∈ tw_l := tb_8 (List.mem_of_getElem? (i := 219) rfl) rfl
theorem wd_2012 : Cond.selects RX12 yX12_searched yX12_searched ∈ tw_l := tb_8 (List.mem_of_getElem? (i := 220) rfl) rfl
theorem wd_2013 : Cond.code yX12_searched cX12_searched 2 (some FieldType.int) ∈ tw_l := tb_8 (List.mem_of_getElem? (i := 221) rfl) rfl
theorem wd_2014 : Cond.methodLink RX12 452 yX12_fewest ∈ tw_l := tb_8 (List.mem_of_getElem? (i := 222) rfl) rfl
theorem wd_2016 : Cond.instanceMethod yX12_fewest ∈ tw_l := tb_8 (List.mem_of_getElem? (i := 224) rfl) rfl
theorem wd_2017 : Cond.code yX12_fewest cX12_fewest 3 (some FieldType.int) ∈ tw_l := tb_8 (List.mem_of_getElem? (i := 225) rfl) rfl
theorem wd_2018 : Cond.methodLink RL 184 yX12_fewer ∈ tw_l := tb_8 (List.mem_of_getElem? (i := 226) rfl) rfl
theorem wd_2019 : Cond.instanceMethod yX12_fewer ∈ tw_l := tb_8 (List.mem_of_getElem? (i := 227) rfl) rfl
theorem wd_2020 : Cond.selects RX12 yX12_fewer yX12_fewer ∈ tw_l := tb_8 (List.mem_of_getElem? (i := 228) rfl) rfl
theorem wd_2021 : Cond.code yX12_fewer cX12_fewer 2 (some FieldType.int) ∈ tw_l := tb_8 (List.mem_of_getElem? (i := 229) rfl) rfl
theorem wd_2022 : Cond.methodLink RX12 458 yX12_waysTo ∈ tw_l := tb_8 (List.mem_of_getElem? (i := 230) rfl) rfl
theorem wd_2024 : Cond.instanceMethod yX12_waysTo ∈ tw_l := tb_8 (List.mem_of_getElem? (i := 232) rfl) rfl
theorem wd_2025 : Cond.code yX12_waysTo cX12_waysTo 4 (Option.none : Option FieldType) ∈ tw_l := tb_8 (List.mem_of_getElem? (i := 233) rfl) rfl
theorem wd_2026 : Cond.methodLink RL 188 yX12_same ∈ tw_l := tb_8 (List.mem_of_getElem? (i := 234) rfl) rfl
theorem wd_2027 : Cond.instanceMethod yX12_same ∈ tw_l := tb_8 (List.mem_of_getElem? (i := 235) rfl) rfl
theorem wd_2028 : Cond.selects RX12 yX12_same yX12_same ∈ tw_l := tb_8 (List.mem_of_getElem? (i := 236) rfl) rfl
theorem wd_2029 : Cond.code yX12_same cX12_same 6 (some FieldType.int) ∈ tw_l := tb_8 (List.mem_of_getElem? (i := 237) rfl) rfl
theorem wd_2030 : Cond.methodLink RX12 461 yX12_partsBy ∈ tw_l := tb_8 (List.mem_of_getElem? (i := 238) rfl) rfl
theorem wd_2032 : Cond.instanceMethod yX12_partsBy ∈ tw_l := tb_9 (List.mem_of_getElem? (i := 0) rfl) rfl
theorem wd_2033 : Cond.code yX12_partsBy cX12_partsBy 7 (some FieldType.int) ∈ tw_l := tb_9 (List.mem_of_getElem? (i := 1) rfl) rfl
theorem wd_2034 : Cond.methodLink RX12 464 yX12_polynomialsPart ∈ tw_l := tb_9 (List.mem_of_getElem? (i := 2) rfl) rfl
theorem wd_2036 : Cond.instanceMethod yX12_polynomialsPart ∈ tw_l := tb_9 (List.mem_of_getElem? (i := 4) rfl) rfl
theorem wd_2037 : Cond.code yX12_polynomialsPart cX12_polynomialsPart 5 (some FieldType.boolean) ∈ tw_l := tb_9 (List.mem_of_getElem? (i := 5) rfl) rfl
theorem wd_2038 : Cond.methodLink RL 192 yX12_parted ∈ tw_l := tb_9 (List.mem_of_getElem? (i := 6) rfl) rfl
theorem wd_2039 : Cond.instanceMethod yX12_parted ∈ tw_l := tb_9 (List.mem_of_getElem? (i := 7) rfl) rfl
theorem wd_2040 : Cond.selects RX12 yX12_parted yX12_parted ∈ tw_l := tb_9 (List.mem_of_getElem? (i := 8) rfl) rfl
theorem wd_2041 : Cond.code yX12_parted cX12_parted 1 (some FieldType.int) ∈ tw_l := tb_9 (List.mem_of_getElem? (i := 9) rfl) rfl
theorem wd_2042 : Cond.methodLink RL 196 yX12_way ∈ tw_l := tb_9 (List.mem_of_getElem? (i := 10) rfl) rfl
theorem wd_2043 : Cond.instanceMethod yX12_way ∈ tw_l := tb_9 (List.mem_of_getElem? (i := 11) rfl) rfl
theorem wd_2044 : Cond.selects RX12 yX12_way yX12_way ∈ tw_l := tb_9 (List.mem_of_getElem? (i := 12) rfl) rfl
theorem wd_2045 : Cond.code yX12_way cX12_way 2 (some FieldType.int) ∈ tw_l := tb_9 (List.mem_of_getElem? (i := 13) rfl) rfl
theorem wd_2046 : Cond.methodLink RL 200 yX12_check ∈ tw_l := tb_9 (List.mem_of_getElem? (i := 14) rfl) rfl
theorem wd_2047 : Cond.instanceMethod yX12_check ∈ tw_l := tb_9 (List.mem_of_getElem? (i := 15) rfl) rfl
theorem wd_2048 : Cond.selects RX12 yX12_check yX12_check ∈ tw_l := tb_9 (List.mem_of_getElem? (i := 16) rfl) rfl
theorem wd_2049 : Cond.code yX12_check cX12_check 3 (some FieldType.int) ∈ tw_l := tb_9 (List.mem_of_getElem? (i := 17) rfl) rfl
theorem wd_2050 : Cond.methodLink RL 207 yX12_book ∈ tw_l := tb_9 (List.mem_of_getElem? (i := 18) rfl) rfl
theorem wd_2051 : Cond.instanceMethod yX12_book ∈ tw_l := tb_9 (List.mem_of_getElem? (i := 19) rfl) rfl
theorem wd_2052 : Cond.selects RX12 yX12_book yX12_book ∈ tw_l := tb_9 (List.mem_of_getElem? (i := 20) rfl) rfl
theorem wd_2053 : Cond.code yX12_book cX12_book 6 (some FieldType.int) ∈ tw_l := tb_9 (List.mem_of_getElem? (i := 21) rfl) rfl
theorem wd_2054 : Cond.methodLink RL 211 yX12_name ∈ tw_l := tb_9 (List.mem_of_getElem? (i := 22) rfl) rfl
theorem wd_2055 : Cond.instanceMethod yX12_name ∈ tw_l := tb_9 (List.mem_of_getElem? (i := 23) rfl) rfl
theorem wd_2056 : Cond.selects RX12 yX12_name yX12_name ∈ tw_l := tb_9 (List.mem_of_getElem? (i := 24) rfl) rfl
theorem wd_2057 : Cond.code yX12_name cX12_name 5 (some FieldType.long) ∈ tw_l := tb_9 (List.mem_of_getElem? (i := 25) rfl) rfl
theorem wd_2058 : Cond.methodLink RX12 473 yX12_named ∈ tw_l := tb_9 (List.mem_of_getElem? (i := 26) rfl) rfl
theorem wd_2060 : Cond.instanceMethod yX12_named ∈ tw_l := tb_9 (List.mem_of_getElem? (i := 28) rfl) rfl
theorem wd_2061 : Cond.code yX12_named cX12_named 4 (some FieldType.int) ∈ tw_l := tb_9 (List.mem_of_getElem? (i := 29) rfl) rfl
theorem wd_2062 : Cond.methodLink RL 215 yX12_count ∈ tw_l := tb_9 (List.mem_of_getElem? (i := 30) rfl) rfl
theorem wd_2063 : Cond.instanceMethod yX12_count ∈ tw_l := tb_9 (List.mem_of_getElem? (i := 31) rfl) rfl
theorem wd_2064 : Cond.selects RX12 yX12_count yX12_count ∈ tw_l := tb_9 (List.mem_of_getElem? (i := 32) rfl) rfl
theorem wd_2065 : Cond.code yX12_count cX12_count 2 (some FieldType.int) ∈ tw_l := tb_9 (List.mem_of_getElem? (i := 33) rfl) rfl
theorem wd_2066 : Cond.methodLink RL 219 yX12_findings ∈ tw_l := tb_9 (List.mem_of_getElem? (i := 34) rfl) rfl
theorem wd_2067 : Cond.instanceMethod yX12_findings ∈ tw_l := tb_9 (List.mem_of_getElem? (i := 35) rfl) rfl
theorem wd_2068 : Cond.selects RX12 yX12_findings yX12_findings ∈ tw_l := tb_9 (List.mem_of_getElem? (i := 36) rfl) rfl
theorem wd_2069 : Cond.code yX12_findings cX12_findings 2 (some FieldType.int) ∈ tw_l := tb_9 (List.mem_of_getElem? (i := 37) rfl) rfl
theorem wd_2070 : Cond.methodLink RL 223 yX12_status ∈ tw_l := tb_9 (List.mem_of_getElem? (i := 38) rfl) rfl
theorem wd_2071 : Cond.instanceMethod yX12_status ∈ tw_l := tb_9 (List.mem_of_getElem? (i := 39) rfl) rfl
theorem wd_2072 : Cond.selects RX12 yX12_status yX12_status ∈ tw_l := tb_9 (List.mem_of_getElem? (i := 40) rfl) rfl
theorem wd_2073 : Cond.code yX12_status cX12_status 1 (some FieldType.int) ∈ tw_l := tb_9 (List.mem_of_getElem? (i := 41) rfl) rfl
theorem wd_2074 : Cond.methodLink RL 228 yX12_digest ∈ tw_l := tb_9 (List.mem_of_getElem? (i := 42) rfl) rfl
theorem wd_2075 : Cond.instanceMethod yX12_digest ∈ tw_l := tb_9 (List.mem_of_getElem? (i := 43) rfl) rfl
theorem wd_2076 : Cond.selects RX12 yX12_digest yX12_digest ∈ tw_l := tb_9 (List.mem_of_getElem? (i := 44) rfl) rfl
theorem wd_2077 : Cond.code yX12_digest cX12_digest 6 (some FieldType.long) ∈ tw_l := tb_9 (List.mem_of_getElem? (i := 45) rfl) rfl
theorem wd_2078 : Cond.constantLong RX12 476 (17) ∈ tw_l := tb_9 (List.mem_of_getElem? (i := 46) rfl) rfl
theorem wd_2079 : Cond.constantLong RX12 478 (31) ∈ tw_l := tb_9 (List.mem_of_getElem? (i := 47) rfl) rfl
theorem wd_2080 : Cond.constantLong RL 201 (4294967295) ∈ tw_l := tb_9 (List.mem_of_getElem? (i := 48) rfl) rfl
theorem fl_X6_13 : fl_ RX6 13 6 0 := Or.inl wd_150
theorem fl_X7_89 : fl_ RX7 89 6 0 := Or.inr ⟨_, wd_151⟩
theorem fl_X11_301 : fl_ RX11 301 6 0 := Or.inr ⟨_, wd_152⟩
theorem fl_X6_19 : fl_ RX6 19 6 1 := Or.inl wd_153
theorem fl_X7_94 : fl_ RX7 94 6 1 := Or.inr ⟨_, wd_154⟩
theorem fl_X11_292 : fl_ RX11 292 6 1 := Or.inr ⟨_, wd_155⟩
theorem fl_X4_9 : fl_ RX4 9 4 0 := Or.inl wd_168
theorem fl_X10_51 : fl_ RX10 51 4 0 := Or.inr ⟨_, wd_169⟩
theorem fl_X1_58 : fl_ RX1 58 4 0 := Or.inr ⟨_, wd_170⟩
theorem fl_X9_53 : fl_ RX9 53 4 0 := Or.inr ⟨_, wd_171⟩
theorem fl_X5_104 : fl_ RX5 104 4 0 := Or.inr ⟨_, wd_172⟩
theorem fl_X7_61 : fl_ RX7 61 4 0 := Or.inr ⟨_, wd_173⟩
theorem fl_X11_222 : fl_ RX11 222 4 0 := Or.inr ⟨_, wd_174⟩
theorem fl_X4_15 : fl_ RX4 15 4 1 := Or.inl wd_175
theorem fl_X5_110 : fl_ RX5 110 4 1 := Or.inr ⟨_, wd_176⟩
theorem fl_X4_18 : fl_ RX4 18 4 2 := Or.inl wd_177
theorem fl_X4_21 : fl_ RX4 21 4 3 := Or.inl wd_178
theorem fl_X11_234 : fl_ RX11 234 4 3 := Or.inr ⟨_, wd_179⟩
theorem fl_X4_24 : fl_ RX4 24 4 4 := Or.inl wd_180
theorem fl_X4_27 : fl_ RX4 27 4 5 := Or.inl wd_181
theorem fl_X4_30 : fl_ RX4 30 4 6 := Or.inl wd_182
theorem fl_X11_231 : fl_ RX11 231 4 6 := Or.inr ⟨_, wd_183⟩
theorem fl_X4_33 : fl_ RX4 33 4 7 := Or.inl wd_184
theorem fl_X4_36 : fl_ RX4 36 4 8 := Or.inl wd_185
theorem fl_X4_39 : fl_ RX4 39 4 9 := Or.inl wd_186
theorem fl_X4_42 : fl_ RX4 42 4 10 := Or.inl wd_187
theorem fl_X1_24 : fl_ RX1 24 4 10 := Or.inr ⟨_, wd_188⟩
theorem fl_X9_34 : fl_ RX9 34 4 10 := Or.inr ⟨_, wd_189⟩
theorem fl_X11_213 : fl_ RX11 213 4 10 := Or.inr ⟨_, wd_190⟩
theorem fl_X5_142 : fl_ RX5 142 4 10 := Or.inr ⟨_, wd_191⟩
theorem fl_X1_48 : fl_ RX1 48 4 11 := Or.inr ⟨_, wd_192⟩
theorem fl_X4_49 : fl_ RX4 49 4 11 := Or.inl wd_193
theorem fl_X9_44 : fl_ RX9 44 4 11 := Or.inr ⟨_, wd_194⟩
theorem fl_X11_214 : fl_ RX11 214 4 11 := Or.inr ⟨_, wd_195⟩
theorem fl_X4_75 : fl_ RX4 75 4 12 := Or.inl wd_196
theorem fl_X11_192 : fl_ RX11 192 4 12 := Or.inr ⟨_, wd_197⟩
theorem fl_X4_78 : fl_ RX4 78 4 13 := Or.inl wd_198
theorem fl_X11_195 : fl_ RX11 195 4 13 := Or.inr ⟨_, wd_199⟩
theorem fl_X4_46 : fl_ RX4 46 4 14 := Or.inl wd_200
theorem fl_X9_82 : fl_ RX9 82 4 15 := Or.inr ⟨_, wd_201⟩
theorem fl_X4_117 : fl_ RX4 117 4 15 := Or.inl wd_202
theorem fl_X11_198 : fl_ RX11 198 4 15 := Or.inr ⟨_, wd_203⟩
theorem fl_X11_107 : fl_ RX11 107 4 16 := Or.inr ⟨_, wd_204⟩
theorem fl_X4_56 : fl_ RX4 56 4 16 := Or.inl wd_205
theorem fl_X4_59 : fl_ RX4 59 4 17 := Or.inl wd_206
theorem fl_X11_181 : fl_ RX11 181 4 17 := Or.inr ⟨_, wd_207⟩
theorem fl_X7_9 : fl_ RX7 9 7 0 := Or.inl wd_253
theorem fl_X4_87 : fl_ RX4 87 7 0 := Or.inr ⟨_, wd_254⟩
theorem fl_X11_158 : fl_ RX11 158 7 0 := Or.inr ⟨_, wd_255⟩
theorem fl_X7_15 : fl_ RX7 15 7 1 := Or.inl wd_256
theorem fl_X10_44 : fl_ RX10 44 7 1 := Or.inr ⟨_, wd_257⟩
theorem fl_X4_94 : fl_ RX4 94 7 1 := Or.inr ⟨_, wd_258⟩
theorem fl_X5_101 : fl_ RX5 101 7 1 := Or.inr ⟨_, wd_259⟩
theorem fl_X11_165 : fl_ RX11 165 7 1 := Or.inr ⟨_, wd_260⟩
theorem fl_X10_18 : fl_ RX10 18 7 2 := Or.inr ⟨_, wd_261⟩
theorem fl_X7_24 : fl_ RX7 24 7 2 := Or.inl wd_262
theorem fl_X8_89 : fl_ RX8 89 7 2 := Or.inr ⟨_, wd_263⟩
theorem fl_X4_52 : fl_ RX4 52 7 2 := Or.inr ⟨_, wd_264⟩
theorem fl_X11_141 : fl_ RX11 141 7 2 := Or.inr ⟨_, wd_265⟩
theorem fl_X5_90 : fl_ RX5 90 7 2 := Or.inr ⟨_, wd_266⟩
theorem fl_X10_31 : fl_ RX10 31 7 3 := Or.inr ⟨_, wd_267⟩
theorem fl_X7_28 : fl_ RX7 28 7 3 := Or.inl wd_268
theorem fl_X4_55 : fl_ RX4 55 7 3 := Or.inr ⟨_, wd_269⟩
theorem fl_X5_80 : fl_ RX5 80 7 3 := Or.inr ⟨_, wd_270⟩
theorem fl_X11_178 : fl_ RX11 178 7 3 := Or.inr ⟨_, wd_271⟩
theorem fl_X7_70 : fl_ RX7 70 7 4 := Or.inl wd_272
theorem fl_X7_76 : fl_ RX7 76 7 5 := Or.inl wd_273
theorem fl_X11_228 : fl_ RX11 228 7 5 := Or.inr ⟨_, wd_274⟩
theorem fl_X7_73 : fl_ RX7 73 7 6 := Or.inl wd_275
theorem fl_X9_9 : fl_ RX9 9 9 0 := Or.inl wd_299
theorem fl_X9_17 : fl_ RX9 17 9 1 := Or.inl wd_300
theorem fl_X9_39 : fl_ RX9 39 9 2 := Or.inl wd_301
theorem fl_X9_29 : fl_ RX9 29 9 3 := Or.inl wd_302
theorem fl_X11_432 : fl_ RX11 432 9 3 := Or.inr ⟨_, wd_303⟩
theorem fl_X2_9 : fl_ RX2 9 2 0 := Or.inl wd_319
theorem fl_X2_13 : fl_ RX2 13 2 1 := Or.inl wd_320
theorem fl_X2_22 : fl_ RX2 22 2 2 := Or.inl wd_321
theorem fl_X11_274 : fl_ RX11 274 2 2 := Or.inr ⟨_, wd_322⟩
theorem fl_X1_9 : fl_ RX1 9 1 0 := Or.inl wd_338
theorem fl_X1_17 : fl_ RX1 17 1 1 := Or.inl wd_339
theorem fl_X1_42 : fl_ RX1 42 1 2 := Or.inl wd_340
theorem fl_X10_11 : fl_ RX10 11 10 0 := Or.inl wd_361
theorem fl_X10_15 : fl_ RX10 15 10 1 := Or.inl wd_362
theorem fl_X8_106 : fl_ RX8 106 10 1 := Or.inr ⟨_, wd_363⟩
theorem fl_X10_30 : fl_ RX10 30 10 2 := Or.inl wd_364
theorem fl_X8_110 : fl_ RX8 110 10 2 := Or.inr ⟨_, wd_365⟩
theorem fl_X11_380 : fl_ RX11 380 10 2 := Or.inr ⟨_, wd_366⟩
theorem fl_X10_34 : fl_ RX10 34 10 3 := Or.inl wd_367
theorem fl_X10_41 : fl_ RX10 41 10 4 := Or.inl wd_368
theorem fl_X8_141 : fl_ RX8 141 10 5 := Or.inr ⟨_, wd_369⟩
theorem fl_X8_144 : fl_ RX8 144 10 6 := Or.inr ⟨_, wd_370⟩
theorem fl_X3_9 : fl_ RX3 9 3 0 := Or.inl wd_392
theorem fl_X3_15 : fl_ RX3 15 3 1 := Or.inl wd_393
theorem fl_X3_18 : fl_ RX3 18 3 2 := Or.inl wd_394
theorem fl_X3_31 : fl_ RX3 31 3 3 := Or.inl wd_395
theorem fl_X8_11 : fl_ RX8 11 8 0 := Or.inl wd_411
theorem fl_X11_373 : fl_ RX11 373 8 0 := Or.inr ⟨_, wd_412⟩
theorem fl_X8_18 : fl_ RX8 18 8 1 := Or.inl wd_413
theorem fl_X8_25 : fl_ RX8 25 8 2 := Or.inl wd_414
theorem fl_X11_345 : fl_ RX11 345 8 2 := Or.inr ⟨_, wd_415⟩
theorem fl_X8_34 : fl_ RX8 34 8 3 := Or.inl wd_416
theorem fl_X11_408 : fl_ RX11 408 8 3 := Or.inr ⟨_, wd_417⟩
theorem fl_X8_41 : fl_ RX8 41 8 4 := Or.inl wd_418
theorem fl_X8_45 : fl_ RX8 45 8 5 := Or.inl wd_419
theorem fl_X8_51 : fl_ RX8 51 8 6 := Or.inl wd_420
theorem fl_X8_55 : fl_ RX8 55 8 7 := Or.inl wd_421
theorem fl_X8_58 : fl_ RX8 58 8 8 := Or.inl wd_422
theorem fl_X11_364 : fl_ RX11 364 8 8 := Or.inr ⟨_, wd_423⟩
theorem fl_X8_62 : fl_ RX8 62 8 9 := Or.inl wd_424
theorem fl_X11_367 : fl_ RX11 367 8 9 := Or.inr ⟨_, wd_425⟩
theorem fl_X8_65 : fl_ RX8 65 8 10 := Or.inl wd_426
theorem fl_X8_72 : fl_ RX8 72 8 11 := Or.inl wd_427
theorem fl_X11_370 : fl_ RX11 370 8 11 := Or.inr ⟨_, wd_428⟩
theorem fl_X8_75 : fl_ RX8 75 8 12 := Or.inl wd_429
theorem fl_X11_383 : fl_ RX11 383 8 12 := Or.inr ⟨_, wd_430⟩
theorem fl_X8_135 : fl_ RX8 135 8 13 := Or.inl wd_431
theorem fl_X8_118 : fl_ RX8 118 8 14 := Or.inl wd_432
theorem fl_X8_68 : fl_ RX8 68 8 15 := Or.inl wd_433
theorem fl_X0_9 : fl_ RX0 9 0 0 := Or.inl wd_475
theorem fl_X0_17 : fl_ RX0 17 0 1 := Or.inl wd_476
theorem fl_X0_21 : fl_ RX0 21 0 2 := Or.inl wd_477
theorem fl_X11_421 : fl_ RX11 421 0 2 := Or.inr ⟨_, wd_478⟩
theorem fl_X11_11 : fl_ RX11 11 11 0 := Or.inl wd_486
theorem fl_X11_17 : fl_ RX11 17 11 1 := Or.inl wd_487
theorem fl_X11_26 : fl_ RX11 26 11 2 := Or.inl wd_488
theorem fl_X11_30 : fl_ RX11 30 11 3 := Or.inl wd_489
theorem fl_X11_36 : fl_ RX11 36 11 4 := Or.inl wd_490
theorem fl_X11_40 : fl_ RX11 40 11 5 := Or.inl wd_491
theorem fl_X11_44 : fl_ RX11 44 11 6 := Or.inl wd_492
theorem fl_X11_51 : fl_ RX11 51 11 7 := Or.inl wd_493
theorem fl_X11_58 : fl_ RX11 58 11 8 := Or.inl wd_494
theorem fl_X11_62 : fl_ RX11 62 11 9 := Or.inl wd_495
theorem fl_X11_65 : fl_ RX11 65 11 10 := Or.inl wd_496
theorem fl_X11_71 : fl_ RX11 71 11 11 := Or.inl wd_497
theorem fl_X11_78 : fl_ RX11 78 11 12 := Or.inl wd_498
theorem fl_X11_85 : fl_ RX11 85 11 13 := Or.inl wd_499
theorem fl_X11_89 : fl_ RX11 89 11 14 := Or.inl wd_500
theorem fl_X11_97 : fl_ RX11 97 11 15 := Or.inl wd_501
theorem fl_X11_100 : fl_ RX11 100 11 16 := Or.inl wd_502
theorem fl_X11_93 : fl_ RX11 93 11 17 := Or.inl wd_503
theorem fl_X11_399 : fl_ RX11 399 11 18 := Or.inl wd_504
theorem fl_X11_110 : fl_ RX11 110 11 19 := Or.inl wd_505
theorem fl_X5_9 : fl_ RX5 9 5 0 := Or.inl wd_1002
theorem fl_X5_15 : fl_ RX5 15 5 1 := Or.inl wd_1003
theorem fl_X5_18 : fl_ RX5 18 5 2 := Or.inl wd_1004
theorem fl_X5_21 : fl_ RX5 21 5 3 := Or.inl wd_1005
theorem fl_X12_162 : fl_ RX12 162 12 0 := Or.inl wd_1378
theorem fl_X12_7 : fl_ RX12 7 12 1 := Or.inl wd_1379
theorem fl_X12_13 : fl_ RX12 13 12 2 := Or.inl wd_1380
theorem fl_X12_16 : fl_ RX12 16 12 3 := Or.inl wd_1381
theorem fl_X12_19 : fl_ RX12 19 12 4 := Or.inl wd_1382
theorem fl_X12_23 : fl_ RX12 23 12 5 := Or.inl wd_1383
theorem fl_X12_169 : fl_ RX12 169 12 6 := Or.inl wd_1384
theorem fl_X12_26 : fl_ RX12 26 12 7 := Or.inl wd_1385
theorem fl_X12_29 : fl_ RX12 29 12 8 := Or.inl wd_1386
theorem fl_X12_32 : fl_ RX12 32 12 9 := Or.inl wd_1387
theorem fl_X12_36 : fl_ RX12 36 12 10 := Or.inl wd_1388
theorem fl_X12_39 : fl_ RX12 39 12 11 := Or.inl wd_1389
theorem fl_X12_42 : fl_ RX12 42 12 12 := Or.inl wd_1390
theorem fl_X12_46 : fl_ RX12 46 12 13 := Or.inl wd_1391
theorem fl_X12_49 : fl_ RX12 49 12 14 := Or.inl wd_1392
theorem fl_X12_52 : fl_ RX12 52 12 15 := Or.inl wd_1393
theorem fl_X12_55 : fl_ RX12 55 12 16 := Or.inl wd_1394
theorem fl_X12_58 : fl_ RX12 58 12 17 := Or.inl wd_1395
theorem fl_X12_61 : fl_ RX12 61 12 18 := Or.inl wd_1396
theorem fl_X12_64 : fl_ RX12 64 12 19 := Or.inl wd_1397
theorem fl_X12_67 : fl_ RX12 67 12 20 := Or.inl wd_1398
theorem fl_X12_71 : fl_ RX12 71 12 21 := Or.inl wd_1399
theorem fl_X12_263 : fl_ RX12 263 12 22 := Or.inl wd_1400
theorem fl_X12_250 : fl_ RX12 250 12 23 := Or.inl wd_1401
theorem fl_X12_74 : fl_ RX12 74 12 24 := Or.inl wd_1402
theorem fl_X12_77 : fl_ RX12 77 12 25 := Or.inl wd_1403
theorem fl_X12_80 : fl_ RX12 80 12 26 := Or.inl wd_1404
theorem fl_X12_83 : fl_ RX12 83 12 27 := Or.inl wd_1405
theorem fl_X12_86 : fl_ RX12 86 12 28 := Or.inl wd_1406
theorem fl_X12_281 : fl_ RX12 281 12 29 := Or.inl wd_1407
theorem fl_X12_89 : fl_ RX12 89 12 30 := Or.inl wd_1408
theorem fl_X12_92 : fl_ RX12 92 12 31 := Or.inl wd_1409
theorem fl_X12_95 : fl_ RX12 95 12 32 := Or.inl wd_1410
theorem fl_X12_98 : fl_ RX12 98 12 33 := Or.inl wd_1411
theorem fl_X12_101 : fl_ RX12 101 12 34 := Or.inl wd_1412
theorem fl_X12_365 : fl_ RX12 365 12 35 := Or.inl wd_1413
theorem fl_X12_104 : fl_ RX12 104 12 36 := Or.inl wd_1414
theorem fl_X12_107 : fl_ RX12 107 12 37 := Or.inl wd_1415
theorem fl_X12_368 : fl_ RX12 368 12 38 := Or.inl wd_1416
theorem fl_X12_110 : fl_ RX12 110 12 39 := Or.inl wd_1417
theorem fl_X12_113 : fl_ RX12 113 12 40 := Or.inl wd_1418
theorem fl_X12_116 : fl_ RX12 116 12 41 := Or.inl wd_1419
theorem fl_X12_119 : fl_ RX12 119 12 42 := Or.inl wd_1420
theorem fl_X12_122 : fl_ RX12 122 12 43 := Or.inl wd_1421
theorem fl_X12_125 : fl_ RX12 125 12 44 := Or.inl wd_1422
theorem fl_X12_128 : fl_ RX12 128 12 45 := Or.inl wd_1423
theorem fl_X12_131 : fl_ RX12 131 12 46 := Or.inl wd_1424
theorem fl_X12_134 : fl_ RX12 134 12 47 := Or.inl wd_1425
theorem fl_X12_137 : fl_ RX12 137 12 48 := Or.inl wd_1426
theorem fl_X12_420 : fl_ RX12 420 12 49 := Or.inl wd_1427
theorem fl_X12_423 : fl_ RX12 423 12 50 := Or.inl wd_1428
theorem fl_X12_426 : fl_ RX12 426 12 51 := Or.inl wd_1429
theorem fl_X12_429 : fl_ RX12 429 12 52 := Or.inl wd_1430
theorem fl_X12_432 : fl_ RX12 432 12 53 := Or.inl wd_1431
theorem fl_X12_435 : fl_ RX12 435 12 54 := Or.inl wd_1432
theorem fl_X12_140 : fl_ RX12 140 12 55 := Or.inl wd_1433
theorem fl_X12_143 : fl_ RX12 143 12 56 := Or.inl wd_1434
theorem fl_X12_146 : fl_ RX12 146 12 57 := Or.inl wd_1435
theorem fl_X12_149 : fl_ RX12 149 12 58 := Or.inl wd_1436
theorem fl_X12_455 : fl_ RX12 455 12 59 := Or.inl wd_1437
theorem fl_X12_467 : fl_ RX12 467 12 60 := Or.inl wd_1438
theorem fl_X12_152 : fl_ RX12 152 12 61 := Or.inl wd_1439
theorem fl_X12_470 : fl_ RX12 470 12 62 := Or.inl wd_1440
theorem fl_X12_155 : fl_ RX12 155 12 63 := Or.inl wd_1441
theorem fl_X12_159 : fl_ RX12 159 12 64 := Or.inl wd_1442
theorem ck_X0_init : Cond.code yX0_init (mX0_init).2.1 (mX0_init).2.2.1 (mX0_init).2.2.2.1 ∈ tw_l ∧ Cond.initialized (yX0_init).cls ∈ tw_l ∧ ((yX0_init).cls ≠ "java/lang/invoke/MethodHandle" ∧ (yX0_init).cls ≠ "java/lang/invoke/VarHandle") ∧ (parseMethodDescriptor (yX0_init).desc).map (fun d => d.parameters.length) = some 0 ∧ (mX0_init).2.2.1 ≤ 100 := ⟨wd_471, wd_125, by decide +kernel, by decide +kernel, by decide⟩
theorem ck_X0_has : Cond.code yX0_has (mX0_has).2.1 (mX0_has).2.2.1 (mX0_has).2.2.2.1 ∈ tw_l ∧ Cond.initialized (yX0_has).cls ∈ tw_l ∧ ((yX0_has).cls ≠ "java/lang/invoke/MethodHandle" ∧ (yX0_has).cls ≠ "java/lang/invoke/VarHandle") ∧ (parseMethodDescriptor (yX0_has).desc).map (fun d => d.parameters.length) = some 1 ∧ (mX0_has).2.2.1 ≤ 100 := ⟨wd_1328, wd_125, by decide +kernel, by decide +kernel, by decide⟩
theorem ck_X0_add : Cond.code yX0_add (mX0_add).2.1 (mX0_add).2.2.1 (mX0_add).2.2.2.1 ∈ tw_l ∧ Cond.initialized (yX0_add).cls ∈ tw_l ∧ ((yX0_add).cls ≠ "java/lang/invoke/MethodHandle" ∧ (yX0_add).cls ≠ "java/lang/invoke/VarHandle") ∧ (parseMethodDescriptor (yX0_add).desc).map (fun d => d.parameters.length) = some 2 ∧ (mX0_add).2.2.1 ≤ 100 := ⟨wd_1332, wd_125, by decide +kernel, by decide +kernel, by decide⟩
theorem ck_X0_firstFor : Cond.code yX0_firstFor (mX0_firstFor).2.1 (mX0_firstFor).2.2.1 (mX0_firstFor).2.2.2.1 ∈ tw_l ∧ Cond.initialized (yX0_firstFor).cls ∈ tw_l ∧ ((yX0_firstFor).cls ≠ "java/lang/invoke/MethodHandle" ∧ (yX0_firstFor).cls ≠ "java/lang/invoke/VarHandle") ∧ (parseMethodDescriptor (yX0_firstFor).desc).map (fun d => d.parameters.length) = some 1 ∧ (mX0_firstFor).2.2.1 ≤ 100 := ⟨wd_1346, wd_125, by decide +kernel, by decide +kernel, by decide⟩
theorem ck_X1_init : Cond.code yX1_init (mX1_init).2.1 (mX1_init).2.2.1 (mX1_init).2.2.2.1 ∈ tw_l ∧ Cond.initialized (yX1_init).cls ∈ tw_l ∧ ((yX1_init).cls ≠ "java/lang/invoke/MethodHandle" ∧ (yX1_init).cls ≠ "java/lang/invoke/VarHandle") ∧ (parseMethodDescriptor (yX1_init).desc).map (fun d => d.parameters.length) = some 0 ∧ (mX1_init).2.2.1 ≤ 100 := ⟨wd_335, wd_121, by decide +kernel, by decide +kernel, by decide⟩
theorem ck_X1_powerOf : Cond.code yX1_powerOf (mX1_powerOf).2.1 (mX1_powerOf).2.2.1 (mX1_powerOf).2.2.2.1 ∈ tw_l ∧ Cond.initialized (yX1_powerOf).cls ∈ tw_l ∧ ((yX1_powerOf).cls ≠ "java/lang/invoke/MethodHandle" ∧ (yX1_powerOf).cls ≠ "java/lang/invoke/VarHandle") ∧ (parseMethodDescriptor (yX1_powerOf).desc).map (fun d => d.parameters.length) = some 2 ∧ (mX1_powerOf).2.2.1 ≤ 100 := ⟨wd_793, wd_121, by decide +kernel, by decide +kernel, by decide⟩
theorem ck_X1_findStrands : Cond.code yX1_findStrands (mX1_findStrands).2.1 (mX1_findStrands).2.2.1 (mX1_findStrands).2.2.2.1 ∈ tw_l ∧ Cond.initialized (yX1_findStrands).cls ∈ tw_l ∧ ((yX1_findStrands).cls ≠ "java/lang/invoke/MethodHandle" ∧ (yX1_findStrands).cls ≠ "java/lang/invoke/VarHandle") ∧ (parseMethodDescriptor (yX1_findStrands).desc).map (fun d => d.parameters.length) = some 1 ∧ (mX1_findStrands).2.2.1 ≤ 100 := ⟨wd_797, wd_121, by decide +kernel, by decide +kernel, by decide⟩
theorem ck_X1_walkStrand : Cond.code yX1_walkStrand (mX1_walkStrand).2.1 (mX1_walkStrand).2.2.1 (mX1_walkStrand).2.2.2.1 ∈ tw_l ∧ Cond.initialized (yX1_walkStrand).cls ∈ tw_l ∧ ((yX1_walkStrand).cls ≠ "java/lang/invoke/MethodHandle" ∧ (yX1_walkStrand).cls ≠ "java/lang/invoke/VarHandle") ∧ (parseMethodDescriptor (yX1_walkStrand).desc).map (fun d => d.parameters.length) = some 2 ∧ (mX1_walkStrand).2.2.1 ≤ 100 := ⟨wd_802, wd_121, by decide +kernel, by decide +kernel, by decide⟩
theorem ck_X1_rank : Cond.code yX1_rank (mX1_rank).2.1 (mX1_rank).2.2.1 (mX1_rank).2.2.2.1 ∈ tw_l ∧ Cond.initialized (yX1_rank).cls ∈ tw_l ∧ ((yX1_rank).cls ≠ "java/lang/invoke/MethodHandle" ∧ (yX1_rank).cls ≠ "java/lang/invoke/VarHandle") ∧ (parseMethodDescriptor (yX1_rank).desc).map (fun d => d.parameters.length) = some 2 ∧ (mX1_rank).2.2.1 ≤ 100 := ⟨wd_810, wd_121, by decide +kernel, by decide +kernel, by decide⟩
theorem ck_X1_pivotOf : Cond.code yX1_pivotOf (mX1_pivotOf).2.1 (mX1_pivotOf).2.2.1 (mX1_pivotOf).2.2.2.1 ∈ tw_l ∧ Cond.initialized (yX1_pivotOf).cls ∈ tw_l ∧ ((yX1_pivotOf).cls ≠ "java/lang/invoke/MethodHandle" ∧ (yX1_pivotOf).cls ≠ "java/lang/invoke/VarHandle") ∧ (parseMethodDescriptor (yX1_pivotOf).desc).map (fun d => d.parameters.length) = some 3 ∧ (mX1_pivotOf).2.2.1 ≤ 100 := ⟨wd_814, wd_121, by decide +kernel, by decide +kernel, by decide⟩
theorem ck_X1_inverse : Cond.code yX1_inverse (mX1_inverse).2.1 (mX1_inverse).2.2.1 (mX1_inverse).2.2.2.1 ∈ tw_l ∧ Cond.initialized (yX1_inverse).cls ∈ tw_l ∧ ((yX1_inverse).cls ≠ "java/lang/invoke/MethodHandle" ∧ (yX1_inverse).cls ≠ "java/lang/invoke/VarHandle") ∧ (parseMethodDescriptor (yX1_inverse).desc).map (fun d => d.parameters.length) = some 2 ∧ (mX1_inverse).2.2.1 ≤ 100 := ⟨wd_821, wd_121, by decide +kernel, by decide +kernel, by decide⟩
theorem ck_X1_clearBelow : Cond.code yX1_clearBelow (mX1_clearBelow).2.1 (mX1_clearBelow).2.2.1 (mX1_clearBelow).2.2.2.1 ∈ tw_l ∧ Cond.initialized (yX1_clearBelow).cls ∈ tw_l ∧ ((yX1_clearBelow).cls ≠ "java/lang/invoke/MethodHandle" ∧ (yX1_clearBelow).cls ≠ "java/lang/invoke/VarHandle") ∧ (parseMethodDescriptor (yX1_clearBelow).desc).map (fun d => d.parameters.length) = some 4 ∧ (mX1_clearBelow).2.2.1 ≤ 100 := ⟨wd_818, wd_121, by decide +kernel, by decide +kernel, by decide⟩
theorem ck_X2_init : Cond.code yX2_init (mX2_init).2.1 (mX2_init).2.2.1 (mX2_init).2.2.2.1 ∈ tw_l ∧ Cond.initialized (yX2_init).cls ∈ tw_l ∧ ((yX2_init).cls ≠ "java/lang/invoke/MethodHandle" ∧ (yX2_init).cls ≠ "java/lang/invoke/VarHandle") ∧ (parseMethodDescriptor (yX2_init).desc).map (fun d => d.parameters.length) = some 0 ∧ (mX2_init).2.2.1 ≤ 100 := ⟨wd_317, wd_120, by decide +kernel, by decide +kernel, by decide⟩
theorem ck_X2_numberAt : Cond.code yX2_numberAt (mX2_numberAt).2.1 (mX2_numberAt).2.2.1 (mX2_numberAt).2.2.2.1 ∈ tw_l ∧ Cond.initialized (yX2_numberAt).cls ∈ tw_l ∧ ((yX2_numberAt).cls ≠ "java/lang/invoke/MethodHandle" ∧ (yX2_numberAt).cls ≠ "java/lang/invoke/VarHandle") ∧ (parseMethodDescriptor (yX2_numberAt).desc).map (fun d => d.parameters.length) = some 1 ∧ (mX2_numberAt).2.2.1 ≤ 100 := ⟨wd_873, wd_120, by decide +kernel, by decide +kernel, by decide⟩
theorem ck_X2_empty : Cond.code yX2_empty (mX2_empty).2.1 (mX2_empty).2.2.1 (mX2_empty).2.2.2.1 ∈ tw_l ∧ Cond.initialized (yX2_empty).cls ∈ tw_l ∧ ((yX2_empty).cls ≠ "java/lang/invoke/MethodHandle" ∧ (yX2_empty).cls ≠ "java/lang/invoke/VarHandle") ∧ (parseMethodDescriptor (yX2_empty).desc).map (fun d => d.parameters.length) = some 0 ∧ (mX2_empty).2.2.1 ≤ 100 := ⟨wd_862, wd_120, by decide +kernel, by decide +kernel, by decide⟩
theorem ck_X2_add : Cond.code yX2_add (mX2_add).2.1 (mX2_add).2.2.1 (mX2_add).2.2.2.1 ∈ tw_l ∧ Cond.initialized (yX2_add).cls ∈ tw_l ∧ ((yX2_add).cls ≠ "java/lang/invoke/MethodHandle" ∧ (yX2_add).cls ≠ "java/lang/invoke/VarHandle") ∧ (parseMethodDescriptor (yX2_add).desc).map (fun d => d.parameters.length) = some 2 ∧ (mX2_add).2.2.1 ≤ 100 := ⟨wd_881, wd_120, by decide +kernel, by decide +kernel, by decide⟩
theorem ck_X2_swapRows : Cond.code yX2_swapRows (mX2_swapRows).2.1 (mX2_swapRows).2.2.1 (mX2_swapRows).2.2.2.1 ∈ tw_l ∧ Cond.initialized (yX2_swapRows).cls ∈ tw_l ∧ ((yX2_swapRows).cls ≠ "java/lang/invoke/MethodHandle" ∧ (yX2_swapRows).cls ≠ "java/lang/invoke/VarHandle") ∧ (parseMethodDescriptor (yX2_swapRows).desc).map (fun d => d.parameters.length) = some 0 ∧ (mX2_swapRows).2.2.1 ≤ 100 := ⟨wd_877, wd_120, by decide +kernel, by decide +kernel, by decide⟩
theorem ck_X2_multiplyByCircle : Cond.code yX2_multiplyByCircle (mX2_multiplyByCircle).2.1 (mX2_multiplyByCircle).2.2.1 (mX2_multiplyByCircle).2.2.2.1 ∈ tw_l ∧ Cond.initialized (yX2_multiplyByCircle).cls ∈ tw_l ∧ ((yX2_multiplyByCircle).cls ≠ "java/lang/invoke/MethodHandle" ∧ (yX2_multiplyByCircle).cls ≠ "java/lang/invoke/VarHandle") ∧ (parseMethodDescriptor (yX2_multiplyByCircle).desc).map (fun d => d.parameters.length) = some 0 ∧ (mX2_multiplyByCircle).2.2.1 ≤ 100 := ⟨wd_869, wd_120, by decide +kernel, by decide +kernel, by decide⟩
theorem ck_X2_levelOut : Cond.code yX2_levelOut (mX2_levelOut).2.1 (mX2_levelOut).2.2.1 (mX2_levelOut).2.2.2.1 ∈ tw_l ∧ Cond.initialized (yX2_levelOut).cls ∈ tw_l ∧ ((yX2_levelOut).cls ≠ "java/lang/invoke/MethodHandle" ∧ (yX2_levelOut).cls ≠ "java/lang/invoke/VarHandle") ∧ (parseMethodDescriptor (yX2_levelOut).desc).map (fun d => d.parameters.length) = some 1 ∧ (mX2_levelOut).2.2.1 ≤ 100 := ⟨wd_898, wd_120, by decide +kernel, by decide +kernel, by decide⟩
theorem ck_X2_countNumbers : Cond.code yX2_countNumbers (mX2_countNumbers).2.1 (mX2_countNumbers).2.2.1 (mX2_countNumbers).2.2.2.1 ∈ tw_l ∧ Cond.initialized (yX2_countNumbers).cls ∈ tw_l ∧ ((yX2_countNumbers).cls ≠ "java/lang/invoke/MethodHandle" ∧ (yX2_countNumbers).cls ≠ "java/lang/invoke/VarHandle") ∧ (parseMethodDescriptor (yX2_countNumbers).desc).map (fun d => d.parameters.length) = some 0 ∧ (mX2_countNumbers).2.2.1 ≤ 100 := ⟨wd_885, wd_120, by decide +kernel, by decide +kernel, by decide⟩
theorem ck_X2_lowest : Cond.code yX2_lowest (mX2_lowest).2.1 (mX2_lowest).2.2.1 (mX2_lowest).2.2.2.1 ∈ tw_l ∧ Cond.initialized (yX2_lowest).cls ∈ tw_l ∧ ((yX2_lowest).cls ≠ "java/lang/invoke/MethodHandle" ∧ (yX2_lowest).cls ≠ "java/lang/invoke/VarHandle") ∧ (parseMethodDescriptor (yX2_lowest).desc).map (fun d => d.parameters.length) = some 0 ∧ (mX2_lowest).2.2.1 ≤ 100 := ⟨wd_911, wd_120, by decide +kernel, by decide +kernel, by decide⟩
theorem ck_X2_highest : Cond.code yX2_highest (mX2_highest).2.1 (mX2_highest).2.2.1 (mX2_highest).2.2.2.1 ∈ tw_l ∧ Cond.initialized (yX2_highest).cls ∈ tw_l ∧ ((yX2_highest).cls ≠ "java/lang/invoke/MethodHandle" ∧ (yX2_highest).cls ≠ "java/lang/invoke/VarHandle") ∧ (parseMethodDescriptor (yX2_highest).desc).map (fun d => d.parameters.length) = some 0 ∧ (mX2_highest).2.2.1 ≤ 100 := ⟨wd_915, wd_120, by decide +kernel, by decide +kernel, by decide⟩
theorem ck_X2_alternatingSize : Cond.code yX2_alternatingSize (mX2_alternatingSize).2.1 (mX2_alternatingSize).2.2.1 (mX2_alternatingSize).2.2.2.1 ∈ tw_l ∧ Cond.initialized (yX2_alternatingSize).cls ∈ tw_l ∧ ((yX2_alternatingSize).cls ≠ "java/lang/invoke/MethodHandle" ∧ (yX2_alternatingSize).cls ≠ "java/lang/invoke/VarHandle") ∧ (parseMethodDescriptor (yX2_alternatingSize).desc).map (fun d => d.parameters.length) = some 0 ∧ (mX2_alternatingSize).2.2.1 ≤ 100 := ⟨wd_923, wd_120, by decide +kernel, by decide +kernel, by decide⟩
theorem ck_X2_isAs : Cond.code yX2_isAs (mX2_isAs).2.1 (mX2_isAs).2.2.1 (mX2_isAs).2.2.2.1 ∈ tw_l ∧ Cond.initialized (yX2_isAs).cls ∈ tw_l ∧ ((yX2_isAs).cls ≠ "java/lang/invoke/MethodHandle" ∧ (yX2_isAs).cls ≠ "java/lang/invoke/VarHandle") ∧ (parseMethodDescriptor (yX2_isAs).desc).map (fun d => d.parameters.length) = some 1 ∧ (mX2_isAs).2.2.1 ≤ 100 := ⟨wd_1293, wd_120, by decide +kernel, by decide +kernel, by decide⟩
theorem ck_X2_take : Cond.code yX2_take (mX2_take).2.1 (mX2_take).2.2.1 (mX2_take).2.2.2.1 ∈ tw_l ∧ Cond.initialized (yX2_take).cls ∈ tw_l ∧ ((yX2_take).cls ≠ "java/lang/invoke/MethodHandle" ∧ (yX2_take).cls ≠ "java/lang/invoke/VarHandle") ∧ (parseMethodDescriptor (yX2_take).desc).map (fun d => d.parameters.length) = some 1 ∧ (mX2_take).2.2.1 ≤ 100 := ⟨wd_1337, wd_120, by decide +kernel, by decide +kernel, by decide⟩
theorem ck_X3_init : Cond.code yX3_init (mX3_init).2.1 (mX3_init).2.2.1 (mX3_init).2.2.2.1 ∈ tw_l ∧ Cond.initialized (yX3_init).cls ∈ tw_l ∧ ((yX3_init).cls ≠ "java/lang/invoke/MethodHandle" ∧ (yX3_init).cls ≠ "java/lang/invoke/VarHandle") ∧ (parseMethodDescriptor (yX3_init).desc).map (fun d => d.parameters.length) = some 0 ∧ (mX3_init).2.2.1 ≤ 100 := ⟨wd_390, wd_124, by decide +kernel, by decide +kernel, by decide⟩
theorem ck_X3_holds : Cond.code yX3_holds (mX3_holds).2.1 (mX3_holds).2.2.1 (mX3_holds).2.2.2.1 ∈ tw_l ∧ Cond.initialized (yX3_holds).cls ∈ tw_l ∧ ((yX3_holds).cls ≠ "java/lang/invoke/MethodHandle" ∧ (yX3_holds).cls ≠ "java/lang/invoke/VarHandle") ∧ (parseMethodDescriptor (yX3_holds).desc).map (fun d => d.parameters.length) = some 3 ∧ (mX3_holds).2.2.1 ≤ 100 := ⟨wd_1179, wd_124, by decide +kernel, by decide +kernel, by decide⟩
theorem ck_X3_findsPart : Cond.code yX3_findsPart (mX3_findsPart).2.1 (mX3_findsPart).2.2.1 (mX3_findsPart).2.2.2.1 ∈ tw_l ∧ Cond.initialized (yX3_findsPart).cls ∈ tw_l ∧ ((yX3_findsPart).cls ≠ "java/lang/invoke/MethodHandle" ∧ (yX3_findsPart).cls ≠ "java/lang/invoke/VarHandle") ∧ (parseMethodDescriptor (yX3_findsPart).desc).map (fun d => d.parameters.length) = some 4 ∧ (mX3_findsPart).2.2.1 ≤ 100 := ⟨wd_1184, wd_124, by decide +kernel, by decide +kernel, by decide⟩
theorem ck_X3_assign : Cond.code yX3_assign (mX3_assign).2.1 (mX3_assign).2.2.1 (mX3_assign).2.2.2.1 ∈ tw_l ∧ Cond.initialized (yX3_assign).cls ∈ tw_l ∧ ((yX3_assign).cls ≠ "java/lang/invoke/MethodHandle" ∧ (yX3_assign).cls ≠ "java/lang/invoke/VarHandle") ∧ (parseMethodDescriptor (yX3_assign).desc).map (fun d => d.parameters.length) = some 2 ∧ (mX3_assign).2.2.1 ≤ 100 := ⟨wd_1188, wd_124, by decide +kernel, by decide +kernel, by decide⟩
theorem ck_X3_withdraw : Cond.code yX3_withdraw (mX3_withdraw).2.1 (mX3_withdraw).2.2.1 (mX3_withdraw).2.2.2.1 ∈ tw_l ∧ Cond.initialized (yX3_withdraw).cls ∈ tw_l ∧ ((yX3_withdraw).cls ≠ "java/lang/invoke/MethodHandle" ∧ (yX3_withdraw).cls ≠ "java/lang/invoke/VarHandle") ∧ (parseMethodDescriptor (yX3_withdraw).desc).map (fun d => d.parameters.length) = some 0 ∧ (mX3_withdraw).2.2.1 ≤ 100 := ⟨wd_1197, wd_124, by decide +kernel, by decide +kernel, by decide⟩
theorem ck_X3_spreads : Cond.code yX3_spreads (mX3_spreads).2.1 (mX3_spreads).2.2.1 (mX3_spreads).2.2.2.1 ∈ tw_l ∧ Cond.initialized (yX3_spreads).cls ∈ tw_l ∧ ((yX3_spreads).cls ≠ "java/lang/invoke/MethodHandle" ∧ (yX3_spreads).cls ≠ "java/lang/invoke/VarHandle") ∧ (parseMethodDescriptor (yX3_spreads).desc).map (fun d => d.parameters.length) = some 2 ∧ (mX3_spreads).2.2.1 ≤ 100 := ⟨wd_1192, wd_124, by decide +kernel, by decide +kernel, by decide⟩
theorem ck_X4_init : Cond.code yX4_init (mX4_init).2.1 (mX4_init).2.2.1 (mX4_init).2.2.2.1 ∈ tw_l ∧ Cond.initialized (yX4_init).cls ∈ tw_l ∧ ((yX4_init).cls ≠ "java/lang/invoke/MethodHandle" ∧ (yX4_init).cls ≠ "java/lang/invoke/VarHandle") ∧ (parseMethodDescriptor (yX4_init).desc).map (fun d => d.parameters.length) = some 0 ∧ (mX4_init).2.2.1 ≤ 100 := ⟨wd_166, wd_116, by decide +kernel, by decide +kernel, by decide⟩
theorem ck_X4_hasEnd : Cond.code yX4_hasEnd (mX4_hasEnd).2.1 (mX4_hasEnd).2.2.1 (mX4_hasEnd).2.2.2.1 ∈ tw_l ∧ Cond.initialized (yX4_hasEnd).cls ∈ tw_l ∧ ((yX4_hasEnd).cls ≠ "java/lang/invoke/MethodHandle" ∧ (yX4_hasEnd).cls ≠ "java/lang/invoke/VarHandle") ∧ (parseMethodDescriptor (yX4_hasEnd).desc).map (fun d => d.parameters.length) = some 1 ∧ (mX4_hasEnd).2.2.1 ≤ 100 := ⟨wd_736, wd_116, by decide +kernel, by decide +kernel, by decide⟩
theorem ck_X4_allPieces : Cond.code yX4_allPieces (mX4_allPieces).2.1 (mX4_allPieces).2.2.1 (mX4_allPieces).2.2.2.1 ∈ tw_l ∧ Cond.initialized (yX4_allPieces).cls ∈ tw_l ∧ ((yX4_allPieces).cls ≠ "java/lang/invoke/MethodHandle" ∧ (yX4_allPieces).cls ≠ "java/lang/invoke/VarHandle") ∧ (parseMethodDescriptor (yX4_allPieces).desc).map (fun d => d.parameters.length) = some 0 ∧ (mX4_allPieces).2.2.1 ≤ 100 := ⟨wd_700, wd_116, by decide +kernel, by decide +kernel, by decide⟩
theorem ck_X4_survey : Cond.code yX4_survey (mX4_survey).2.1 (mX4_survey).2.2.1 (mX4_survey).2.2.2.1 ∈ tw_l ∧ Cond.initialized (yX4_survey).cls ∈ tw_l ∧ ((yX4_survey).cls ≠ "java/lang/invoke/MethodHandle" ∧ (yX4_survey).cls ≠ "java/lang/invoke/VarHandle") ∧ (parseMethodDescriptor (yX4_survey).desc).map (fun d => d.parameters.length) = some 1 ∧ (mX4_survey).2.2.1 ≤ 100 := ⟨wd_640, wd_116, by decide +kernel, by decide +kernel, by decide⟩
theorem ck_X4_blame : Cond.code yX4_blame (mX4_blame).2.1 (mX4_blame).2.2.1 (mX4_blame).2.2.2.1 ∈ tw_l ∧ Cond.initialized (yX4_blame).cls ∈ tw_l ∧ ((yX4_blame).cls ≠ "java/lang/invoke/MethodHandle" ∧ (yX4_blame).cls ≠ "java/lang/invoke/VarHandle") ∧ (parseMethodDescriptor (yX4_blame).desc).map (fun d => d.parameters.length) = some 2 ∧ (mX4_blame).2.2.1 ≤ 100 := ⟨wd_648, wd_116, by decide +kernel, by decide +kernel, by decide⟩
theorem ck_X4_findFault : Cond.code yX4_findFault (mX4_findFault).2.1 (mX4_findFault).2.2.1 (mX4_findFault).2.2.2.1 ∈ tw_l ∧ Cond.initialized (yX4_findFault).cls ∈ tw_l ∧ ((yX4_findFault).cls ≠ "java/lang/invoke/MethodHandle" ∧ (yX4_findFault).cls ≠ "java/lang/invoke/VarHandle") ∧ (parseMethodDescriptor (yX4_findFault).desc).map (fun d => d.parameters.length) = some 1 ∧ (mX4_findFault).2.2.1 ≤ 100 := ⟨wd_644, wd_116, by decide +kernel, by decide +kernel, by decide⟩
theorem ck_X4_pairUp : Cond.code yX4_pairUp (mX4_pairUp).2.1 (mX4_pairUp).2.2.1 (mX4_pairUp).2.2.2.1 ∈ tw_l ∧ Cond.initialized (yX4_pairUp).cls ∈ tw_l ∧ ((yX4_pairUp).cls ≠ "java/lang/invoke/MethodHandle" ∧ (yX4_pairUp).cls ≠ "java/lang/invoke/VarHandle") ∧ (parseMethodDescriptor (yX4_pairUp).desc).map (fun d => d.parameters.length) = some 1 ∧ (mX4_pairUp).2.2.1 ≤ 100 := ⟨wd_653, wd_116, by decide +kernel, by decide +kernel, by decide⟩
theorem ck_X4_nextInRegion : Cond.code yX4_nextInRegion (mX4_nextInRegion).2.1 (mX4_nextInRegion).2.2.1 (mX4_nextInRegion).2.2.2.1 ∈ tw_l ∧ Cond.initialized (yX4_nextInRegion).cls ∈ tw_l ∧ ((yX4_nextInRegion).cls ≠ "java/lang/invoke/MethodHandle" ∧ (yX4_nextInRegion).cls ≠ "java/lang/invoke/VarHandle") ∧ (parseMethodDescriptor (yX4_nextInRegion).desc).map (fun d => d.parameters.length) = some 1 ∧ (mX4_nextInRegion).2.2.1 ≤ 100 := ⟨wd_1081, wd_116, by decide +kernel, by decide +kernel, by decide⟩
theorem ck_X4_findRegions : Cond.code yX4_findRegions (mX4_findRegions).2.1 (mX4_findRegions).2.2.1 (mX4_findRegions).2.2.2.1 ∈ tw_l ∧ Cond.initialized (yX4_findRegions).cls ∈ tw_l ∧ ((yX4_findRegions).cls ≠ "java/lang/invoke/MethodHandle" ∧ (yX4_findRegions).cls ≠ "java/lang/invoke/VarHandle") ∧ (parseMethodDescriptor (yX4_findRegions).desc).map (fun d => d.parameters.length) = some 0 ∧ (mX4_findRegions).2.2.1 ≤ 100 := ⟨wd_657, wd_116, by decide +kernel, by decide +kernel, by decide⟩
theorem ck_X4_walkRegion : Cond.code yX4_walkRegion (mX4_walkRegion).2.1 (mX4_walkRegion).2.2.1 (mX4_walkRegion).2.2.2.1 ∈ tw_l ∧ Cond.initialized (yX4_walkRegion).cls ∈ tw_l ∧ ((yX4_walkRegion).cls ≠ "java/lang/invoke/MethodHandle" ∧ (yX4_walkRegion).cls ≠ "java/lang/invoke/VarHandle") ∧ (parseMethodDescriptor (yX4_walkRegion).desc).map (fun d => d.parameters.length) = some 1 ∧ (mX4_walkRegion).2.2.1 ≤ 100 := ⟨wd_661, wd_116, by decide +kernel, by decide +kernel, by decide⟩
theorem ck_X4_findParts : Cond.code yX4_findParts (mX4_findParts).2.1 (mX4_findParts).2.2.1 (mX4_findParts).2.2.2.1 ∈ tw_l ∧ Cond.initialized (yX4_findParts).cls ∈ tw_l ∧ ((yX4_findParts).cls ≠ "java/lang/invoke/MethodHandle" ∧ (yX4_findParts).cls ≠ "java/lang/invoke/VarHandle") ∧ (parseMethodDescriptor (yX4_findParts).desc).map (fun d => d.parameters.length) = some 0 ∧ (mX4_findParts).2.2.1 ≤ 100 := ⟨wd_668, wd_116, by decide +kernel, by decide +kernel, by decide⟩
theorem ck_X4_spreadPart : Cond.code yX4_spreadPart (mX4_spreadPart).2.1 (mX4_spreadPart).2.2.1 (mX4_spreadPart).2.2.2.1 ∈ tw_l ∧ Cond.initialized (yX4_spreadPart).cls ∈ tw_l ∧ ((yX4_spreadPart).cls ≠ "java/lang/invoke/MethodHandle" ∧ (yX4_spreadPart).cls ≠ "java/lang/invoke/VarHandle") ∧ (parseMethodDescriptor (yX4_spreadPart).desc).map (fun d => d.parameters.length) = some 1 ∧ (mX4_spreadPart).2.2.1 ≤ 100 := ⟨wd_672, wd_116, by decide +kernel, by decide +kernel, by decide⟩
theorem ck_X4_findPieces : Cond.code yX4_findPieces (mX4_findPieces).2.1 (mX4_findPieces).2.2.1 (mX4_findPieces).2.2.2.1 ∈ tw_l ∧ Cond.initialized (yX4_findPieces).cls ∈ tw_l ∧ ((yX4_findPieces).cls ≠ "java/lang/invoke/MethodHandle" ∧ (yX4_findPieces).cls ≠ "java/lang/invoke/VarHandle") ∧ (parseMethodDescriptor (yX4_findPieces).desc).map (fun d => d.parameters.length) = some 0 ∧ (mX4_findPieces).2.2.1 ≤ 100 := ⟨wd_676, wd_116, by decide +kernel, by decide +kernel, by decide⟩
theorem ck_X4_walkPiece : Cond.code yX4_walkPiece (mX4_walkPiece).2.1 (mX4_walkPiece).2.2.1 (mX4_walkPiece).2.2.2.1 ∈ tw_l ∧ Cond.initialized (yX4_walkPiece).cls ∈ tw_l ∧ ((yX4_walkPiece).cls ≠ "java/lang/invoke/MethodHandle" ∧ (yX4_walkPiece).cls ≠ "java/lang/invoke/VarHandle") ∧ (parseMethodDescriptor (yX4_walkPiece).desc).map (fun d => d.parameters.length) = some 1 ∧ (mX4_walkPiece).2.2.1 ≤ 100 := ⟨wd_680, wd_116, by decide +kernel, by decide +kernel, by decide⟩
theorem ck_X4_findSigns : Cond.code yX4_findSigns (mX4_findSigns).2.1 (mX4_findSigns).2.2.1 (mX4_findSigns).2.2.2.1 ∈ tw_l ∧ Cond.initialized (yX4_findSigns).cls ∈ tw_l ∧ ((yX4_findSigns).cls ≠ "java/lang/invoke/MethodHandle" ∧ (yX4_findSigns).cls ≠ "java/lang/invoke/VarHandle") ∧ (parseMethodDescriptor (yX4_findSigns).desc).map (fun d => d.parameters.length) = some 0 ∧ (mX4_findSigns).2.2.1 ≤ 100 := ⟨wd_684, wd_116, by decide +kernel, by decide +kernel, by decide⟩
theorem ck_X4_linkOf : Cond.code yX4_linkOf (mX4_linkOf).2.1 (mX4_linkOf).2.2.1 (mX4_linkOf).2.2.2.1 ∈ tw_l ∧ Cond.initialized (yX4_linkOf).cls ∈ tw_l ∧ ((yX4_linkOf).cls ≠ "java/lang/invoke/MethodHandle" ∧ (yX4_linkOf).cls ≠ "java/lang/invoke/VarHandle") ∧ (parseMethodDescriptor (yX4_linkOf).desc).map (fun d => d.parameters.length) = some 2 ∧ (mX4_linkOf).2.2.1 ≤ 100 := ⟨wd_780, wd_116, by decide +kernel, by decide +kernel, by decide⟩
theorem ck_X4_spell : Cond.code yX4_spell (mX4_spell).2.1 (mX4_spell).2.2.1 (mX4_spell).2.2.2.1 ∈ tw_l ∧ Cond.initialized (yX4_spell).cls ∈ tw_l ∧ ((yX4_spell).cls ≠ "java/lang/invoke/MethodHandle" ∧ (yX4_spell).cls ≠ "java/lang/invoke/VarHandle") ∧ (parseMethodDescriptor (yX4_spell).desc).map (fun d => d.parameters.length) = some 1 ∧ (mX4_spell).2.2.1 ≤ 100 := ⟨wd_935, wd_116, by decide +kernel, by decide +kernel, by decide⟩
theorem ck_X4_likenessMark : Cond.code yX4_likenessMark (mX4_likenessMark).2.1 (mX4_likenessMark).2.2.1 (mX4_likenessMark).2.2.2.1 ∈ tw_l ∧ Cond.initialized (yX4_likenessMark).cls ∈ tw_l ∧ ((yX4_likenessMark).cls ≠ "java/lang/invoke/MethodHandle" ∧ (yX4_likenessMark).cls ≠ "java/lang/invoke/VarHandle") ∧ (parseMethodDescriptor (yX4_likenessMark).desc).map (fun d => d.parameters.length) = some 0 ∧ (mX4_likenessMark).2.2.1 ≤ 100 := ⟨wd_1224, wd_116, by decide +kernel, by decide +kernel, by decide⟩
theorem ck_X5_init : Cond.code yX5_init (mX5_init).2.1 (mX5_init).2.2.1 (mX5_init).2.2.2.1 ∈ tw_l ∧ Cond.initialized (yX5_init).cls ∈ tw_l ∧ ((yX5_init).cls ≠ "java/lang/invoke/MethodHandle" ∧ (yX5_init).cls ≠ "java/lang/invoke/VarHandle") ∧ (parseMethodDescriptor (yX5_init).desc).map (fun d => d.parameters.length) = some 4 ∧ (mX5_init).2.2.1 ≤ 100 := ⟨wd_1000, wd_128, by decide +kernel, by decide +kernel, by decide⟩
theorem ck_X5_number : Cond.code yX5_number (mX5_number).2.1 (mX5_number).2.2.1 (mX5_number).2.2.2.1 ∈ tw_l ∧ Cond.initialized (yX5_number).cls ∈ tw_l ∧ ((yX5_number).cls ≠ "java/lang/invoke/MethodHandle" ∧ (yX5_number).cls ≠ "java/lang/invoke/VarHandle") ∧ (parseMethodDescriptor (yX5_number).desc).map (fun d => d.parameters.length) = some 1 ∧ (mX5_number).2.2.1 ≤ 100 := ⟨wd_1026, wd_128, by decide +kernel, by decide +kernel, by decide⟩
theorem ck_X5_isA : Cond.code yX5_isA (mX5_isA).2.1 (mX5_isA).2.2.1 (mX5_isA).2.2.2.1 ∈ tw_l ∧ Cond.initialized (yX5_isA).cls ∈ tw_l ∧ ((yX5_isA).cls ≠ "java/lang/invoke/MethodHandle" ∧ (yX5_isA).cls ≠ "java/lang/invoke/VarHandle") ∧ (parseMethodDescriptor (yX5_isA).desc).map (fun d => d.parameters.length) = some 1 ∧ (mX5_isA).2.2.1 ≤ 100 := ⟨wd_1042, wd_128, by decide +kernel, by decide +kernel, by decide⟩
theorem ck_X5_canBeUndone : Cond.code yX5_canBeUndone (mX5_canBeUndone).2.1 (mX5_canBeUndone).2.2.1 (mX5_canBeUndone).2.2.2.1 ∈ tw_l ∧ Cond.initialized (yX5_canBeUndone).cls ∈ tw_l ∧ ((yX5_canBeUndone).cls ≠ "java/lang/invoke/MethodHandle" ∧ (yX5_canBeUndone).cls ≠ "java/lang/invoke/VarHandle") ∧ (parseMethodDescriptor (yX5_canBeUndone).desc).map (fun d => d.parameters.length) = some 0 ∧ (mX5_canBeUndone).2.2.1 ≤ 100 := ⟨wd_1149, wd_128, by decide +kernel, by decide +kernel, by decide⟩
theorem ck_X5_growth : Cond.code yX5_growth (mX5_growth).2.1 (mX5_growth).2.2.1 (mX5_growth).2.2.2.1 ∈ tw_l ∧ Cond.initialized (yX5_growth).cls ∈ tw_l ∧ ((yX5_growth).cls ≠ "java/lang/invoke/MethodHandle" ∧ (yX5_growth).cls ≠ "java/lang/invoke/VarHandle") ∧ (parseMethodDescriptor (yX5_growth).desc).map (fun d => d.parameters.length) = some 1 ∧ (mX5_growth).2.2.1 ≤ 100 := ⟨wd_1030, wd_128, by decide +kernel, by decide +kernel, by decide⟩
theorem ck_X5_twistGrowth : Cond.code yX5_twistGrowth (mX5_twistGrowth).2.1 (mX5_twistGrowth).2.2.1 (mX5_twistGrowth).2.2.2.1 ∈ tw_l ∧ Cond.initialized (yX5_twistGrowth).cls ∈ tw_l ∧ ((yX5_twistGrowth).cls ≠ "java/lang/invoke/MethodHandle" ∧ (yX5_twistGrowth).cls ≠ "java/lang/invoke/VarHandle") ∧ (parseMethodDescriptor (yX5_twistGrowth).desc).map (fun d => d.parameters.length) = some 1 ∧ (mX5_twistGrowth).2.2.1 ≤ 100 := ⟨wd_1033, wd_128, by decide +kernel, by decide +kernel, by decide⟩
theorem ck_X5_applyTo : Cond.code yX5_applyTo (mX5_applyTo).2.1 (mX5_applyTo).2.2.1 (mX5_applyTo).2.2.2.1 ∈ tw_l ∧ Cond.initialized (yX5_applyTo).cls ∈ tw_l ∧ ((yX5_applyTo).cls ≠ "java/lang/invoke/MethodHandle" ∧ (yX5_applyTo).cls ≠ "java/lang/invoke/VarHandle") ∧ (parseMethodDescriptor (yX5_applyTo).desc).map (fun d => d.parameters.length) = some 2 ∧ (mX5_applyTo).2.2.1 ≤ 100 := ⟨wd_1056, wd_128, by decide +kernel, by decide +kernel, by decide⟩
theorem ck_X5_withdrawFrom : Cond.code yX5_withdrawFrom (mX5_withdrawFrom).2.1 (mX5_withdrawFrom).2.2.1 (mX5_withdrawFrom).2.2.2.1 ∈ tw_l ∧ Cond.initialized (yX5_withdrawFrom).cls ∈ tw_l ∧ ((yX5_withdrawFrom).cls ≠ "java/lang/invoke/MethodHandle" ∧ (yX5_withdrawFrom).cls ≠ "java/lang/invoke/VarHandle") ∧ (parseMethodDescriptor (yX5_withdrawFrom).desc).map (fun d => d.parameters.length) = some 2 ∧ (mX5_withdrawFrom).2.2.1 ≤ 100 := ⟨wd_1153, wd_128, by decide +kernel, by decide +kernel, by decide⟩
theorem ck_X5_takeStep : Cond.code yX5_takeStep (mX5_takeStep).2.1 (mX5_takeStep).2.2.1 (mX5_takeStep).2.2.2.1 ∈ tw_l ∧ Cond.initialized (yX5_takeStep).cls ∈ tw_l ∧ ((yX5_takeStep).cls ≠ "java/lang/invoke/MethodHandle" ∧ (yX5_takeStep).cls ≠ "java/lang/invoke/VarHandle") ∧ (parseMethodDescriptor (yX5_takeStep).desc).map (fun d => d.parameters.length) = some 3 ∧ (mX5_takeStep).2.2.1 ≤ 100 := ⟨wd_1254, wd_128, by decide +kernel, by decide +kernel, by decide⟩
theorem ck_X5_seemsOpen : Cond.code yX5_seemsOpen (mX5_seemsOpen).2.1 (mX5_seemsOpen).2.2.1 (mX5_seemsOpen).2.2.2.1 ∈ tw_l ∧ Cond.initialized (yX5_seemsOpen).cls ∈ tw_l ∧ ((yX5_seemsOpen).cls ≠ "java/lang/invoke/MethodHandle" ∧ (yX5_seemsOpen).cls ≠ "java/lang/invoke/VarHandle") ∧ (parseMethodDescriptor (yX5_seemsOpen).desc).map (fun d => d.parameters.length) = some 2 ∧ (mX5_seemsOpen).2.2.1 ≤ 100 := ⟨wd_1251, wd_128, by decide +kernel, by decide +kernel, by decide⟩
theorem ck_X5_loopsAnswer : Cond.code yX5_loopsAnswer (mX5_loopsAnswer).2.1 (mX5_loopsAnswer).2.2.1 (mX5_loopsAnswer).2.2.2.1 ∈ tw_l ∧ Cond.initialized (yX5_loopsAnswer).cls ∈ tw_l ∧ ((yX5_loopsAnswer).cls ≠ "java/lang/invoke/MethodHandle" ∧ (yX5_loopsAnswer).cls ≠ "java/lang/invoke/VarHandle") ∧ (parseMethodDescriptor (yX5_loopsAnswer).desc).map (fun d => d.parameters.length) = some 1 ∧ (mX5_loopsAnswer).2.2.1 ≤ 100 := ⟨wd_1124, wd_128, by decide +kernel, by decide +kernel, by decide⟩
theorem ck_X5_twist : Cond.code yX5_twist (mX5_twist).2.1 (mX5_twist).2.2.1 (mX5_twist).2.2.2.1 ∈ tw_l ∧ Cond.initialized (yX5_twist).cls ∈ tw_l ∧ ((yX5_twist).cls ≠ "java/lang/invoke/MethodHandle" ∧ (yX5_twist).cls ≠ "java/lang/invoke/VarHandle") ∧ (parseMethodDescriptor (yX5_twist).desc).map (fun d => d.parameters.length) = some 2 ∧ (mX5_twist).2.2.1 ≤ 100 := ⟨wd_1060, wd_128, by decide +kernel, by decide +kernel, by decide⟩
theorem ck_X5_addKink : Cond.code yX5_addKink (mX5_addKink).2.1 (mX5_addKink).2.2.1 (mX5_addKink).2.2.2.1 ∈ tw_l ∧ Cond.initialized (yX5_addKink).cls ∈ tw_l ∧ ((yX5_addKink).cls ≠ "java/lang/invoke/MethodHandle" ∧ (yX5_addKink).cls ≠ "java/lang/invoke/VarHandle") ∧ (parseMethodDescriptor (yX5_addKink).desc).map (fun d => d.parameters.length) = some 4 ∧ (mX5_addKink).2.2.1 ≤ 100 := ⟨wd_1066, wd_128, by decide +kernel, by decide +kernel, by decide⟩
theorem ck_X5_poke : Cond.code yX5_poke (mX5_poke).2.1 (mX5_poke).2.2.1 (mX5_poke).2.2.2.1 ∈ tw_l ∧ Cond.initialized (yX5_poke).cls ∈ tw_l ∧ ((yX5_poke).cls ≠ "java/lang/invoke/MethodHandle" ∧ (yX5_poke).cls ≠ "java/lang/invoke/VarHandle") ∧ (parseMethodDescriptor (yX5_poke).desc).map (fun d => d.parameters.length) = some 2 ∧ (mX5_poke).2.2.1 ≤ 100 := ⟨wd_1071, wd_128, by decide +kernel, by decide +kernel, by decide⟩
theorem ck_X5_isKink : Cond.code yX5_isKink (mX5_isKink).2.1 (mX5_isKink).2.2.1 (mX5_isKink).2.2.2.1 ∈ tw_l ∧ Cond.initialized (yX5_isKink).cls ∈ tw_l ∧ ((yX5_isKink).cls ≠ "java/lang/invoke/MethodHandle" ∧ (yX5_isKink).cls ≠ "java/lang/invoke/VarHandle") ∧ (parseMethodDescriptor (yX5_isKink).desc).map (fun d => d.parameters.length) = some 2 ∧ (mX5_isKink).2.2.1 ≤ 100 := ⟨wd_1159, wd_128, by decide +kernel, by decide +kernel, by decide⟩
theorem ck_X5_untwist : Cond.code yX5_untwist (mX5_untwist).2.1 (mX5_untwist).2.2.1 (mX5_untwist).2.2.2.1 ∈ tw_l ∧ Cond.initialized (yX5_untwist).cls ∈ tw_l ∧ ((yX5_untwist).cls ≠ "java/lang/invoke/MethodHandle" ∧ (yX5_untwist).cls ≠ "java/lang/invoke/VarHandle") ∧ (parseMethodDescriptor (yX5_untwist).desc).map (fun d => d.parameters.length) = some 3 ∧ (mX5_untwist).2.2.1 ≤ 100 := ⟨wd_1156, wd_128, by decide +kernel, by decide +kernel, by decide⟩
theorem ck_X5_isLens : Cond.code yX5_isLens (mX5_isLens).2.1 (mX5_isLens).2.2.1 (mX5_isLens).2.2.2.1 ∈ tw_l ∧ Cond.initialized (yX5_isLens).cls ∈ tw_l ∧ ((yX5_isLens).cls ≠ "java/lang/invoke/MethodHandle" ∧ (yX5_isLens).cls ≠ "java/lang/invoke/VarHandle") ∧ (parseMethodDescriptor (yX5_isLens).desc).map (fun d => d.parameters.length) = some 2 ∧ (mX5_isLens).2.2.1 ≤ 100 := ⟨wd_1165, wd_128, by decide +kernel, by decide +kernel, by decide⟩
theorem ck_X5_unpoke : Cond.code yX5_unpoke (mX5_unpoke).2.1 (mX5_unpoke).2.2.1 (mX5_unpoke).2.2.2.1 ∈ tw_l ∧ Cond.initialized (yX5_unpoke).cls ∈ tw_l ∧ ((yX5_unpoke).cls ≠ "java/lang/invoke/MethodHandle" ∧ (yX5_unpoke).cls ≠ "java/lang/invoke/VarHandle") ∧ (parseMethodDescriptor (yX5_unpoke).desc).map (fun d => d.parameters.length) = some 3 ∧ (mX5_unpoke).2.2.1 ≤ 100 := ⟨wd_1162, wd_128, by decide +kernel, by decide +kernel, by decide⟩
theorem ck_X5_isOver : Cond.code yX5_isOver (mX5_isOver).2.1 (mX5_isOver).2.2.1 (mX5_isOver).2.2.2.1 ∈ tw_l ∧ Cond.initialized (yX5_isOver).cls ∈ tw_l ∧ ((yX5_isOver).cls ≠ "java/lang/invoke/MethodHandle" ∧ (yX5_isOver).cls ≠ "java/lang/invoke/VarHandle") ∧ (parseMethodDescriptor (yX5_isOver).desc).map (fun d => d.parameters.length) = some 2 ∧ (mX5_isOver).2.2.1 ≤ 100 := ⟨wd_1084, wd_128, by decide +kernel, by decide +kernel, by decide⟩
theorem ck_X5_isTriangle : Cond.code yX5_isTriangle (mX5_isTriangle).2.1 (mX5_isTriangle).2.2.1 (mX5_isTriangle).2.2.2.1 ∈ tw_l ∧ Cond.initialized (yX5_isTriangle).cls ∈ tw_l ∧ ((yX5_isTriangle).cls ≠ "java/lang/invoke/MethodHandle" ∧ (yX5_isTriangle).cls ≠ "java/lang/invoke/VarHandle") ∧ (parseMethodDescriptor (yX5_isTriangle).desc).map (fun d => d.parameters.length) = some 2 ∧ (mX5_isTriangle).2.2.1 ≤ 100 := ⟨wd_1077, wd_128, by decide +kernel, by decide +kernel, by decide⟩
theorem ck_X5_slide : Cond.code yX5_slide (mX5_slide).2.1 (mX5_slide).2.2.1 (mX5_slide).2.2.2.1 ∈ tw_l ∧ Cond.initialized (yX5_slide).cls ∈ tw_l ∧ ((yX5_slide).cls ≠ "java/lang/invoke/MethodHandle" ∧ (yX5_slide).cls ≠ "java/lang/invoke/VarHandle") ∧ (parseMethodDescriptor (yX5_slide).desc).map (fun d => d.parameters.length) = some 3 ∧ (mX5_slide).2.2.1 ≤ 100 := ⟨wd_1074, wd_128, by decide +kernel, by decide +kernel, by decide⟩
theorem ck_X5_slideArc : Cond.code yX5_slideArc (mX5_slideArc).2.1 (mX5_slideArc).2.2.1 (mX5_slideArc).2.2.2.1 ∈ tw_l ∧ Cond.initialized (yX5_slideArc).cls ∈ tw_l ∧ ((yX5_slideArc).cls ≠ "java/lang/invoke/MethodHandle" ∧ (yX5_slideArc).cls ≠ "java/lang/invoke/VarHandle") ∧ (parseMethodDescriptor (yX5_slideArc).desc).map (fun d => d.parameters.length) = some 5 ∧ (mX5_slideArc).2.2.1 ≤ 100 := ⟨wd_1088, wd_128, by decide +kernel, by decide +kernel, by decide⟩
theorem ck_X5_isIn : Cond.code yX5_isIn (mX5_isIn).2.1 (mX5_isIn).2.2.1 (mX5_isIn).2.2.2.1 ∈ tw_l ∧ Cond.initialized (yX5_isIn).cls ∈ tw_l ∧ ((yX5_isIn).cls ≠ "java/lang/invoke/MethodHandle" ∧ (yX5_isIn).cls ≠ "java/lang/invoke/VarHandle") ∧ (parseMethodDescriptor (yX5_isIn).desc).map (fun d => d.parameters.length) = some 2 ∧ (mX5_isIn).2.2.1 ≤ 100 := ⟨wd_1098, wd_128, by decide +kernel, by decide +kernel, by decide⟩
theorem ck_X5_areThere : Cond.code yX5_areThere (mX5_areThere).2.1 (mX5_areThere).2.2.1 (mX5_areThere).2.2.2.1 ∈ tw_l ∧ Cond.initialized (yX5_areThere).cls ∈ tw_l ∧ ((yX5_areThere).cls ≠ "java/lang/invoke/MethodHandle" ∧ (yX5_areThere).cls ≠ "java/lang/invoke/VarHandle") ∧ (parseMethodDescriptor (yX5_areThere).desc).map (fun d => d.parameters.length) = some 2 ∧ (mX5_areThere).2.2.1 ≤ 100 := ⟨wd_1095, wd_128, by decide +kernel, by decide +kernel, by decide⟩
theorem ck_X5_countWaysOut : Cond.code yX5_countWaysOut (mX5_countWaysOut).2.1 (mX5_countWaysOut).2.2.1 (mX5_countWaysOut).2.2.2.1 ∈ tw_l ∧ Cond.initialized (yX5_countWaysOut).cls ∈ tw_l ∧ ((yX5_countWaysOut).cls ≠ "java/lang/invoke/MethodHandle" ∧ (yX5_countWaysOut).cls ≠ "java/lang/invoke/VarHandle") ∧ (parseMethodDescriptor (yX5_countWaysOut).desc).map (fun d => d.parameters.length) = some 2 ∧ (mX5_countWaysOut).2.2.1 ≤ 100 := ⟨wd_1101, wd_128, by decide +kernel, by decide +kernel, by decide⟩
theorem ck_X5_wayOut : Cond.code yX5_wayOut (mX5_wayOut).2.1 (mX5_wayOut).2.2.1 (mX5_wayOut).2.2.2.1 ∈ tw_l ∧ Cond.initialized (yX5_wayOut).cls ∈ tw_l ∧ ((yX5_wayOut).cls ≠ "java/lang/invoke/MethodHandle" ∧ (yX5_wayOut).cls ≠ "java/lang/invoke/VarHandle") ∧ (parseMethodDescriptor (yX5_wayOut).desc).map (fun d => d.parameters.length) = some 4 ∧ (mX5_wayOut).2.2.1 ≤ 100 := ⟨wd_1104, wd_128, by decide +kernel, by decide +kernel, by decide⟩
theorem ck_X5_flype : Cond.code yX5_flype (mX5_flype).2.1 (mX5_flype).2.2.1 (mX5_flype).2.2.2.1 ∈ tw_l ∧ Cond.initialized (yX5_flype).cls ∈ tw_l ∧ ((yX5_flype).cls ≠ "java/lang/invoke/MethodHandle" ∧ (yX5_flype).cls ≠ "java/lang/invoke/VarHandle") ∧ (parseMethodDescriptor (yX5_flype).desc).map (fun d => d.parameters.length) = some 3 ∧ (mX5_flype).2.2.1 ≤ 100 := ⟨wd_1092, wd_128, by decide +kernel, by decide +kernel, by decide⟩
theorem ck_X5_passOver : Cond.code yX5_passOver (mX5_passOver).2.1 (mX5_passOver).2.2.1 (mX5_passOver).2.2.2.1 ∈ tw_l ∧ Cond.initialized (yX5_passOver).cls ∈ tw_l ∧ ((yX5_passOver).cls ≠ "java/lang/invoke/MethodHandle" ∧ (yX5_passOver).cls ≠ "java/lang/invoke/VarHandle") ∧ (parseMethodDescriptor (yX5_passOver).desc).map (fun d => d.parameters.length) = some 6 ∧ (mX5_passOver).2.2.1 ≤ 100 := ⟨wd_1107, wd_128, by decide +kernel, by decide +kernel, by decide⟩
theorem ck_X5_smooth : Cond.code yX5_smooth (mX5_smooth).2.1 (mX5_smooth).2.2.1 (mX5_smooth).2.2.2.1 ∈ tw_l ∧ Cond.initialized (yX5_smooth).cls ∈ tw_l ∧ ((yX5_smooth).cls ≠ "java/lang/invoke/MethodHandle" ∧ (yX5_smooth).cls ≠ "java/lang/invoke/VarHandle") ∧ (parseMethodDescriptor (yX5_smooth).desc).map (fun d => d.parameters.length) = some 1 ∧ (mX5_smooth).2.2.1 ≤ 100 := ⟨wd_1112, wd_128, by decide +kernel, by decide +kernel, by decide⟩
theorem ck_X5_change : Cond.code yX5_change (mX5_change).2.1 (mX5_change).2.2.1 (mX5_change).2.2.2.1 ∈ tw_l ∧ Cond.initialized (yX5_change).cls ∈ tw_l ∧ ((yX5_change).cls ≠ "java/lang/invoke/MethodHandle" ∧ (yX5_change).cls ≠ "java/lang/invoke/VarHandle") ∧ (parseMethodDescriptor (yX5_change).desc).map (fun d => d.parameters.length) = some 2 ∧ (mX5_change).2.2.1 ≤ 100 := ⟨wd_1128, wd_128, by decide +kernel, by decide +kernel, by decide⟩
theorem ck_X6_init : Cond.code yX6_init (mX6_init).2.1 (mX6_init).2.2.1 (mX6_init).2.2.2.1 ∈ tw_l ∧ Cond.initialized (yX6_init).cls ∈ tw_l ∧ ((yX6_init).cls ≠ "java/lang/invoke/MethodHandle" ∧ (yX6_init).cls ≠ "java/lang/invoke/VarHandle") ∧ (parseMethodDescriptor (yX6_init).desc).map (fun d => d.parameters.length) = some 1 ∧ (mX6_init).2.2.1 ≤ 100 := ⟨wd_145, wd_114, by decide +kernel, by decide +kernel, by decide⟩
theorem ck_X6_has : Cond.code yX6_has (mX6_has).2.1 (mX6_has).2.2.1 (mX6_has).2.2.2.1 ∈ tw_l ∧ Cond.initialized (yX6_has).cls ∈ tw_l ∧ ((yX6_has).cls ≠ "java/lang/invoke/MethodHandle" ∧ (yX6_has).cls ≠ "java/lang/invoke/VarHandle") ∧ (parseMethodDescriptor (yX6_has).desc).map (fun d => d.parameters.length) = some 1 ∧ (mX6_has).2.2.1 ≤ 100 := ⟨wd_961, wd_114, by decide +kernel, by decide +kernel, by decide⟩
theorem ck_X6_add : Cond.code yX6_add (mX6_add).2.1 (mX6_add).2.2.1 (mX6_add).2.2.2.1 ∈ tw_l ∧ Cond.initialized (yX6_add).cls ∈ tw_l ∧ ((yX6_add).cls ≠ "java/lang/invoke/MethodHandle" ∧ (yX6_add).cls ≠ "java/lang/invoke/VarHandle") ∧ (parseMethodDescriptor (yX6_add).desc).map (fun d => d.parameters.length) = some 1 ∧ (mX6_add).2.2.1 ≤ 100 := ⟨wd_943, wd_114, by decide +kernel, by decide +kernel, by decide⟩
theorem ck_X6_empty : Cond.code yX6_empty (mX6_empty).2.1 (mX6_empty).2.2.1 (mX6_empty).2.2.2.1 ∈ tw_l ∧ Cond.initialized (yX6_empty).cls ∈ tw_l ∧ ((yX6_empty).cls ≠ "java/lang/invoke/MethodHandle" ∧ (yX6_empty).cls ≠ "java/lang/invoke/VarHandle") ∧ (parseMethodDescriptor (yX6_empty).desc).map (fun d => d.parameters.length) = some 0 ∧ (mX6_empty).2.2.1 ≤ 100 := ⟨wd_939, wd_114, by decide +kernel, by decide +kernel, by decide⟩
theorem ck_X6_holds : Cond.code yX6_holds (mX6_holds).2.1 (mX6_holds).2.2.1 (mX6_holds).2.2.2.1 ∈ tw_l ∧ Cond.initialized (yX6_holds).cls ∈ tw_l ∧ ((yX6_holds).cls ≠ "java/lang/invoke/MethodHandle" ∧ (yX6_holds).cls ≠ "java/lang/invoke/VarHandle") ∧ (parseMethodDescriptor (yX6_holds).desc).map (fun d => d.parameters.length) = some 1 ∧ (mX6_holds).2.2.1 ≤ 100 := ⟨wd_985, wd_114, by decide +kernel, by decide +kernel, by decide⟩
theorem ck_X6_reverse : Cond.code yX6_reverse (mX6_reverse).2.1 (mX6_reverse).2.2.1 (mX6_reverse).2.2.2.1 ∈ tw_l ∧ Cond.initialized (yX6_reverse).cls ∈ tw_l ∧ ((yX6_reverse).cls ≠ "java/lang/invoke/MethodHandle" ∧ (yX6_reverse).cls ≠ "java/lang/invoke/VarHandle") ∧ (parseMethodDescriptor (yX6_reverse).desc).map (fun d => d.parameters.length) = some 0 ∧ (mX6_reverse).2.2.1 ≤ 100 := ⟨wd_1280, wd_114, by decide +kernel, by decide +kernel, by decide⟩
theorem ck_X7_init : Cond.code yX7_init (mX7_init).2.1 (mX7_init).2.2.1 (mX7_init).2.2.2.1 ∈ tw_l ∧ Cond.initialized (yX7_init).cls ∈ tw_l ∧ ((yX7_init).cls ≠ "java/lang/invoke/MethodHandle" ∧ (yX7_init).cls ≠ "java/lang/invoke/VarHandle") ∧ (parseMethodDescriptor (yX7_init).desc).map (fun d => d.parameters.length) = some 0 ∧ (mX7_init).2.2.1 ≤ 100 := ⟨wd_248, wd_117, by decide +kernel, by decide +kernel, by decide⟩
theorem ck_X7_hasCrossing : Cond.code yX7_hasCrossing (mX7_hasCrossing).2.1 (mX7_hasCrossing).2.2.1 (mX7_hasCrossing).2.2.2.1 ∈ tw_l ∧ Cond.initialized (yX7_hasCrossing).cls ∈ tw_l ∧ ((yX7_hasCrossing).cls ≠ "java/lang/invoke/MethodHandle" ∧ (yX7_hasCrossing).cls ≠ "java/lang/invoke/VarHandle") ∧ (parseMethodDescriptor (yX7_hasCrossing).desc).map (fun d => d.parameters.length) = some 1 ∧ (mX7_hasCrossing).2.2.1 ≤ 100 := ⟨wd_604, wd_117, by decide +kernel, by decide +kernel, by decide⟩
theorem ck_X7_empty : Cond.code yX7_empty (mX7_empty).2.1 (mX7_empty).2.2.1 (mX7_empty).2.2.2.1 ∈ tw_l ∧ Cond.initialized (yX7_empty).cls ∈ tw_l ∧ ((yX7_empty).cls ≠ "java/lang/invoke/MethodHandle" ∧ (yX7_empty).cls ≠ "java/lang/invoke/VarHandle") ∧ (parseMethodDescriptor (yX7_empty).desc).map (fun d => d.parameters.length) = some 0 ∧ (mX7_empty).2.2.1 ≤ 100 := ⟨wd_562, wd_117, by decide +kernel, by decide +kernel, by decide⟩
theorem ck_X7_take : Cond.code yX7_take (mX7_take).2.1 (mX7_take).2.2.1 (mX7_take).2.2.2.1 ∈ tw_l ∧ Cond.initialized (yX7_take).cls ∈ tw_l ∧ ((yX7_take).cls ≠ "java/lang/invoke/MethodHandle" ∧ (yX7_take).cls ≠ "java/lang/invoke/VarHandle") ∧ (parseMethodDescriptor (yX7_take).desc).map (fun d => d.parameters.length) = some 1 ∧ (mX7_take).2.2.1 ≤ 100 := ⟨wd_570, wd_117, by decide +kernel, by decide +kernel, by decide⟩
theorem ck_X7_add : Cond.code yX7_add (mX7_add).2.1 (mX7_add).2.2.1 (mX7_add).2.2.2.1 ∈ tw_l ∧ Cond.initialized (yX7_add).cls ∈ tw_l ∧ ((yX7_add).cls ≠ "java/lang/invoke/MethodHandle" ∧ (yX7_add).cls ≠ "java/lang/invoke/VarHandle") ∧ (parseMethodDescriptor (yX7_add).desc).map (fun d => d.parameters.length) = some 4 ∧ (mX7_add).2.2.1 ≤ 100 := ⟨wd_596, wd_117, by decide +kernel, by decide +kernel, by decide⟩
theorem ck_X7_resize : Cond.code yX7_resize (mX7_resize).2.1 (mX7_resize).2.2.1 (mX7_resize).2.2.2.1 ∈ tw_l ∧ Cond.initialized (yX7_resize).cls ∈ tw_l ∧ ((yX7_resize).cls ≠ "java/lang/invoke/MethodHandle" ∧ (yX7_resize).cls ≠ "java/lang/invoke/VarHandle") ∧ (parseMethodDescriptor (yX7_resize).desc).map (fun d => d.parameters.length) = some 2 ∧ (mX7_resize).2.2.1 ≤ 100 := ⟨wd_608, wd_117, by decide +kernel, by decide +kernel, by decide⟩
theorem ck_X7_rotate : Cond.code yX7_rotate (mX7_rotate).2.1 (mX7_rotate).2.2.1 (mX7_rotate).2.2.2.1 ∈ tw_l ∧ Cond.initialized (yX7_rotate).cls ∈ tw_l ∧ ((yX7_rotate).cls ≠ "java/lang/invoke/MethodHandle" ∧ (yX7_rotate).cls ≠ "java/lang/invoke/VarHandle") ∧ (parseMethodDescriptor (yX7_rotate).desc).map (fun d => d.parameters.length) = some 2 ∧ (mX7_rotate).2.2.1 ≤ 100 := ⟨wd_715, wd_117, by decide +kernel, by decide +kernel, by decide⟩
theorem ck_X7_flip : Cond.code yX7_flip (mX7_flip).2.1 (mX7_flip).2.2.1 (mX7_flip).2.2.2.1 ∈ tw_l ∧ Cond.initialized (yX7_flip).cls ∈ tw_l ∧ ((yX7_flip).cls ≠ "java/lang/invoke/MethodHandle" ∧ (yX7_flip).cls ≠ "java/lang/invoke/VarHandle") ∧ (parseMethodDescriptor (yX7_flip).desc).map (fun d => d.parameters.length) = some 1 ∧ (mX7_flip).2.2.1 ≤ 100 := ⟨wd_724, wd_117, by decide +kernel, by decide +kernel, by decide⟩
theorem ck_X7_swap : Cond.code yX7_swap (mX7_swap).2.1 (mX7_swap).2.2.1 (mX7_swap).2.2.2.1 ∈ tw_l ∧ Cond.initialized (yX7_swap).cls ∈ tw_l ∧ ((yX7_swap).cls ≠ "java/lang/invoke/MethodHandle" ∧ (yX7_swap).cls ≠ "java/lang/invoke/VarHandle") ∧ (parseMethodDescriptor (yX7_swap).desc).map (fun d => d.parameters.length) = some 2 ∧ (mX7_swap).2.2.1 ≤ 100 := ⟨wd_728, wd_117, by decide +kernel, by decide +kernel, by decide⟩
theorem ck_X7_freeArc : Cond.code yX7_freeArc (mX7_freeArc).2.1 (mX7_freeArc).2.2.1 (mX7_freeArc).2.2.2.1 ∈ tw_l ∧ Cond.initialized (yX7_freeArc).cls ∈ tw_l ∧ ((yX7_freeArc).cls ≠ "java/lang/invoke/MethodHandle" ∧ (yX7_freeArc).cls ≠ "java/lang/invoke/VarHandle") ∧ (parseMethodDescriptor (yX7_freeArc).desc).map (fun d => d.parameters.length) = some 1 ∧ (mX7_freeArc).2.2.1 ≤ 100 := ⟨wd_745, wd_117, by decide +kernel, by decide +kernel, by decide⟩
theorem ck_X7_fuse : Cond.code yX7_fuse (mX7_fuse).2.1 (mX7_fuse).2.2.1 (mX7_fuse).2.2.2.1 ∈ tw_l ∧ Cond.initialized (yX7_fuse).cls ∈ tw_l ∧ ((yX7_fuse).cls ≠ "java/lang/invoke/MethodHandle" ∧ (yX7_fuse).cls ≠ "java/lang/invoke/VarHandle") ∧ (parseMethodDescriptor (yX7_fuse).desc).map (fun d => d.parameters.length) = some 2 ∧ (mX7_fuse).2.2.1 ≤ 100 := ⟨wd_1117, wd_117, by decide +kernel, by decide +kernel, by decide⟩
theorem ck_X7_remove : Cond.code yX7_remove (mX7_remove).2.1 (mX7_remove).2.2.1 (mX7_remove).2.2.2.1 ∈ tw_l ∧ Cond.initialized (yX7_remove).cls ∈ tw_l ∧ ((yX7_remove).cls ≠ "java/lang/invoke/MethodHandle" ∧ (yX7_remove).cls ≠ "java/lang/invoke/VarHandle") ∧ (parseMethodDescriptor (yX7_remove).desc).map (fun d => d.parameters.length) = some 1 ∧ (mX7_remove).2.2.1 ≤ 100 := ⟨wd_1121, wd_117, by decide +kernel, by decide +kernel, by decide⟩
theorem ck_X7_append : Cond.code yX7_append (mX7_append).2.1 (mX7_append).2.2.1 (mX7_append).2.2.2.1 ∈ tw_l ∧ Cond.initialized (yX7_append).cls ∈ tw_l ∧ ((yX7_append).cls ≠ "java/lang/invoke/MethodHandle" ∧ (yX7_append).cls ≠ "java/lang/invoke/VarHandle") ∧ (parseMethodDescriptor (yX7_append).desc).map (fun d => d.parameters.length) = some 2 ∧ (mX7_append).2.2.1 ≤ 100 := ⟨wd_740, wd_117, by decide +kernel, by decide +kernel, by decide⟩
theorem ck_X7_remember : Cond.code yX7_remember (mX7_remember).2.1 (mX7_remember).2.2.1 (mX7_remember).2.2.2.1 ∈ tw_l ∧ Cond.initialized (yX7_remember).cls ∈ tw_l ∧ ((yX7_remember).cls ≠ "java/lang/invoke/MethodHandle" ∧ (yX7_remember).cls ≠ "java/lang/invoke/VarHandle") ∧ (parseMethodDescriptor (yX7_remember).desc).map (fun d => d.parameters.length) = some 0 ∧ (mX7_remember).2.2.1 ≤ 100 := ⟨wd_708, wd_117, by decide +kernel, by decide +kernel, by decide⟩
theorem ck_X7_forget : Cond.code yX7_forget (mX7_forget).2.1 (mX7_forget).2.2.1 (mX7_forget).2.2.2.1 ∈ tw_l ∧ Cond.initialized (yX7_forget).cls ∈ tw_l ∧ ((yX7_forget).cls ≠ "java/lang/invoke/MethodHandle" ∧ (yX7_forget).cls ≠ "java/lang/invoke/VarHandle") ∧ (parseMethodDescriptor (yX7_forget).desc).map (fun d => d.parameters.length) = some 0 ∧ (mX7_forget).2.2.1 ≤ 100 := ⟨wd_592, wd_117, by decide +kernel, by decide +kernel, by decide⟩
theorem ck_X7_goBack : Cond.code yX7_goBack (mX7_goBack).2.1 (mX7_goBack).2.2.1 (mX7_goBack).2.2.2.1 ∈ tw_l ∧ Cond.initialized (yX7_goBack).cls ∈ tw_l ∧ ((yX7_goBack).cls ≠ "java/lang/invoke/MethodHandle" ∧ (yX7_goBack).cls ≠ "java/lang/invoke/VarHandle") ∧ (parseMethodDescriptor (yX7_goBack).desc).map (fun d => d.parameters.length) = some 0 ∧ (mX7_goBack).2.2.1 ≤ 100 := ⟨wd_758, wd_117, by decide +kernel, by decide +kernel, by decide⟩
theorem ck_X7_draw : Cond.code yX7_draw (mX7_draw).2.1 (mX7_draw).2.2.1 (mX7_draw).2.2.2.1 ∈ tw_l ∧ Cond.initialized (yX7_draw).cls ∈ tw_l ∧ ((yX7_draw).cls ≠ "java/lang/invoke/MethodHandle" ∧ (yX7_draw).cls ≠ "java/lang/invoke/VarHandle") ∧ (parseMethodDescriptor (yX7_draw).desc).map (fun d => d.parameters.length) = some 1 ∧ (mX7_draw).2.2.1 ≤ 100 := ⟨wd_969, wd_117, by decide +kernel, by decide +kernel, by decide⟩
theorem ck_X7_countPasses : Cond.code yX7_countPasses (mX7_countPasses).2.1 (mX7_countPasses).2.2.1 (mX7_countPasses).2.2.2.1 ∈ tw_l ∧ Cond.initialized (yX7_countPasses).cls ∈ tw_l ∧ ((yX7_countPasses).cls ≠ "java/lang/invoke/MethodHandle" ∧ (yX7_countPasses).cls ≠ "java/lang/invoke/VarHandle") ∧ (parseMethodDescriptor (yX7_countPasses).desc).map (fun d => d.parameters.length) = some 1 ∧ (mX7_countPasses).2.2.1 ≤ 100 := ⟨wd_972, wd_117, by decide +kernel, by decide +kernel, by decide⟩
theorem ck_X7_drawPass : Cond.code yX7_drawPass (mX7_drawPass).2.1 (mX7_drawPass).2.2.1 (mX7_drawPass).2.2.2.1 ∈ tw_l ∧ Cond.initialized (yX7_drawPass).cls ∈ tw_l ∧ ((yX7_drawPass).cls ≠ "java/lang/invoke/MethodHandle" ∧ (yX7_drawPass).cls ≠ "java/lang/invoke/VarHandle") ∧ (parseMethodDescriptor (yX7_drawPass).desc).map (fun d => d.parameters.length) = some 3 ∧ (mX7_drawPass).2.2.1 ≤ 100 := ⟨wd_989, wd_117, by decide +kernel, by decide +kernel, by decide⟩
theorem ck_X7_entryOf : Cond.code yX7_entryOf (mX7_entryOf).2.1 (mX7_entryOf).2.2.1 (mX7_entryOf).2.2.2.1 ∈ tw_l ∧ Cond.initialized (yX7_entryOf).cls ∈ tw_l ∧ ((yX7_entryOf).cls ≠ "java/lang/invoke/MethodHandle" ∧ (yX7_entryOf).cls ≠ "java/lang/invoke/VarHandle") ∧ (parseMethodDescriptor (yX7_entryOf).desc).map (fun d => d.parameters.length) = some 1 ∧ (mX7_entryOf).2.2.1 ≤ 100 := ⟨wd_980, wd_117, by decide +kernel, by decide +kernel, by decide⟩
theorem ck_X7_closePiece : Cond.code yX7_closePiece (mX7_closePiece).2.1 (mX7_closePiece).2.2.1 (mX7_closePiece).2.2.2.1 ∈ tw_l ∧ Cond.initialized (yX7_closePiece).cls ∈ tw_l ∧ ((yX7_closePiece).cls ≠ "java/lang/invoke/MethodHandle" ∧ (yX7_closePiece).cls ≠ "java/lang/invoke/VarHandle") ∧ (parseMethodDescriptor (yX7_closePiece).desc).map (fun d => d.parameters.length) = some 3 ∧ (mX7_closePiece).2.2.1 ≤ 100 := ⟨wd_977, wd_117, by decide +kernel, by decide +kernel, by decide⟩
theorem ck_X7_mixInto : Cond.code yX7_mixInto (mX7_mixInto).2.1 (mX7_mixInto).2.2.1 (mX7_mixInto).2.2.2.1 ∈ tw_l ∧ Cond.initialized (yX7_mixInto).cls ∈ tw_l ∧ ((yX7_mixInto).cls ≠ "java/lang/invoke/MethodHandle" ∧ (yX7_mixInto).cls ≠ "java/lang/invoke/VarHandle") ∧ (parseMethodDescriptor (yX7_mixInto).desc).map (fun d => d.parameters.length) = some 1 ∧ (mX7_mixInto).2.2.1 ≤ 100 := ⟨wd_1368, wd_117, by decide +kernel, by decide +kernel, by decide⟩
theorem ck_X8_init : Cond.code yX8_init (mX8_init).2.1 (mX8_init).2.2.1 (mX8_init).2.2.2.1 ∈ tw_l ∧ Cond.initialized (yX8_init).cls ∈ tw_l ∧ ((yX8_init).cls ≠ "java/lang/invoke/MethodHandle" ∧ (yX8_init).cls ≠ "java/lang/invoke/VarHandle") ∧ (parseMethodDescriptor (yX8_init).desc).map (fun d => d.parameters.length) = some 0 ∧ (mX8_init).2.2.1 ≤ 100 := ⟨wd_352, wd_122, by decide +kernel, by decide +kernel, by decide⟩
theorem ck_X8_begin : Cond.code yX8_begin (mX8_begin).2.1 (mX8_begin).2.2.1 (mX8_begin).2.2.2.1 ∈ tw_l ∧ Cond.initialized (yX8_begin).cls ∈ tw_l ∧ ((yX8_begin).cls ≠ "java/lang/invoke/MethodHandle" ∧ (yX8_begin).cls ≠ "java/lang/invoke/VarHandle") ∧ (parseMethodDescriptor (yX8_begin).desc).map (fun d => d.parameters.length) = some 1 ∧ (mX8_begin).2.2.1 ≤ 100 := ⟨wd_1208, wd_122, by decide +kernel, by decide +kernel, by decide⟩
theorem ck_X8_aimAt : Cond.code yX8_aimAt (mX8_aimAt).2.1 (mX8_aimAt).2.2.1 (mX8_aimAt).2.2.2.1 ∈ tw_l ∧ Cond.initialized (yX8_aimAt).cls ∈ tw_l ∧ ((yX8_aimAt).cls ≠ "java/lang/invoke/MethodHandle" ∧ (yX8_aimAt).cls ≠ "java/lang/invoke/VarHandle") ∧ (parseMethodDescriptor (yX8_aimAt).desc).map (fun d => d.parameters.length) = some 1 ∧ (mX8_aimAt).2.2.1 ≤ 100 := ⟨wd_1297, wd_122, by decide +kernel, by decide +kernel, by decide⟩
theorem ck_X8_takeAim : Cond.code yX8_takeAim (mX8_takeAim).2.1 (mX8_takeAim).2.2.1 (mX8_takeAim).2.2.2.1 ∈ tw_l ∧ Cond.initialized (yX8_takeAim).cls ∈ tw_l ∧ ((yX8_takeAim).cls ≠ "java/lang/invoke/MethodHandle" ∧ (yX8_takeAim).cls ≠ "java/lang/invoke/VarHandle") ∧ (parseMethodDescriptor (yX8_takeAim).desc).map (fun d => d.parameters.length) = some 0 ∧ (mX8_takeAim).2.2.1 ≤ 100 := ⟨wd_1301, wd_122, by decide +kernel, by decide +kernel, by decide⟩
theorem ck_X8_go : Cond.code yX8_go (mX8_go).2.1 (mX8_go).2.2.1 (mX8_go).2.2.2.1 ∈ tw_l ∧ Cond.initialized (yX8_go).cls ∈ tw_l ∧ ((yX8_go).cls ≠ "java/lang/invoke/MethodHandle" ∧ (yX8_go).cls ≠ "java/lang/invoke/VarHandle") ∧ (parseMethodDescriptor (yX8_go).desc).map (fun d => d.parameters.length) = some 1 ∧ (mX8_go).2.2.1 ≤ 100 := ⟨wd_1244, wd_122, by decide +kernel, by decide +kernel, by decide⟩
theorem ck_X8_enterNext : Cond.code yX8_enterNext (mX8_enterNext).2.1 (mX8_enterNext).2.2.1 (mX8_enterNext).2.2.2.1 ∈ tw_l ∧ Cond.initialized (yX8_enterNext).cls ∈ tw_l ∧ ((yX8_enterNext).cls ≠ "java/lang/invoke/MethodHandle" ∧ (yX8_enterNext).cls ≠ "java/lang/invoke/VarHandle") ∧ (parseMethodDescriptor (yX8_enterNext).desc).map (fun d => d.parameters.length) = some 0 ∧ (mX8_enterNext).2.2.1 ≤ 100 := ⟨wd_1248, wd_122, by decide +kernel, by decide +kernel, by decide⟩
theorem ck_X8_enter : Cond.code yX8_enter (mX8_enter).2.1 (mX8_enter).2.2.1 (mX8_enter).2.2.2.1 ∈ tw_l ∧ Cond.initialized (yX8_enter).cls ∈ tw_l ∧ ((yX8_enter).cls ≠ "java/lang/invoke/MethodHandle" ∧ (yX8_enter).cls ≠ "java/lang/invoke/VarHandle") ∧ (parseMethodDescriptor (yX8_enter).desc).map (fun d => d.parameters.length) = some 1 ∧ (mX8_enter).2.2.1 ≤ 100 := ⟨wd_1234, wd_122, by decide +kernel, by decide +kernel, by decide⟩
theorem ck_X8_keep : Cond.code yX8_keep (mX8_keep).2.1 (mX8_keep).2.2.1 (mX8_keep).2.2.2.1 ∈ tw_l ∧ Cond.initialized (yX8_keep).cls ∈ tw_l ∧ ((yX8_keep).cls ≠ "java/lang/invoke/MethodHandle" ∧ (yX8_keep).cls ≠ "java/lang/invoke/VarHandle") ∧ (parseMethodDescriptor (yX8_keep).desc).map (fun d => d.parameters.length) = some 2 ∧ (mX8_keep).2.2.1 ≤ 100 := ⟨wd_1213, wd_122, by decide +kernel, by decide +kernel, by decide⟩
theorem ck_X8_smallest : Cond.code yX8_smallest (mX8_smallest).2.1 (mX8_smallest).2.2.1 (mX8_smallest).2.2.2.1 ∈ tw_l ∧ Cond.initialized (yX8_smallest).cls ∈ tw_l ∧ ((yX8_smallest).cls ≠ "java/lang/invoke/MethodHandle" ∧ (yX8_smallest).cls ≠ "java/lang/invoke/VarHandle") ∧ (parseMethodDescriptor (yX8_smallest).desc).map (fun d => d.parameters.length) = some 0 ∧ (mX8_smallest).2.2.1 ≤ 100 := ⟨wd_1266, wd_122, by decide +kernel, by decide +kernel, by decide⟩
theorem ck_X8_tellWays : Cond.code yX8_tellWays (mX8_tellWays).2.1 (mX8_tellWays).2.2.1 (mX8_tellWays).2.2.2.1 ∈ tw_l ∧ Cond.initialized (yX8_tellWays).cls ∈ tw_l ∧ ((yX8_tellWays).cls ≠ "java/lang/invoke/MethodHandle" ∧ (yX8_tellWays).cls ≠ "java/lang/invoke/VarHandle") ∧ (parseMethodDescriptor (yX8_tellWays).desc).map (fun d => d.parameters.length) = some 1 ∧ (mX8_tellWays).2.2.1 ≤ 100 := ⟨wd_1274, wd_122, by decide +kernel, by decide +kernel, by decide⟩
theorem ck_X9_init : Cond.code yX9_init (mX9_init).2.1 (mX9_init).2.2.1 (mX9_init).2.2.2.1 ∈ tw_l ∧ Cond.initialized (yX9_init).cls ∈ tw_l ∧ ((yX9_init).cls ≠ "java/lang/invoke/MethodHandle" ∧ (yX9_init).cls ≠ "java/lang/invoke/VarHandle") ∧ (parseMethodDescriptor (yX9_init).desc).map (fun d => d.parameters.length) = some 0 ∧ (mX9_init).2.2.1 ≤ 100 := ⟨wd_295, wd_119, by decide +kernel, by decide +kernel, by decide⟩
theorem ck_X9_costOf : Cond.code yX9_costOf (mX9_costOf).2.1 (mX9_costOf).2.2.1 (mX9_costOf).2.2.2.1 ∈ tw_l ∧ Cond.initialized (yX9_costOf).cls ∈ tw_l ∧ ((yX9_costOf).cls ≠ "java/lang/invoke/MethodHandle" ∧ (yX9_costOf).cls ≠ "java/lang/invoke/VarHandle") ∧ (parseMethodDescriptor (yX9_costOf).desc).map (fun d => d.parameters.length) = some 1 ∧ (mX9_costOf).2.2.1 ≤ 100 := ⟨wd_832, wd_119, by decide +kernel, by decide +kernel, by decide⟩
theorem ck_X9_affords : Cond.code yX9_affords (mX9_affords).2.1 (mX9_affords).2.2.1 (mX9_affords).2.2.2.1 ∈ tw_l ∧ Cond.initialized (yX9_affords).cls ∈ tw_l ∧ ((yX9_affords).cls ≠ "java/lang/invoke/MethodHandle" ∧ (yX9_affords).cls ≠ "java/lang/invoke/VarHandle") ∧ (parseMethodDescriptor (yX9_affords).desc).map (fun d => d.parameters.length) = some 1 ∧ (mX9_affords).2.2.1 ≤ 100 := ⟨wd_838, wd_119, by decide +kernel, by decide +kernel, by decide⟩
theorem ck_X9_makeBracket : Cond.code yX9_makeBracket (mX9_makeBracket).2.1 (mX9_makeBracket).2.2.1 (mX9_makeBracket).2.2.2.1 ∈ tw_l ∧ Cond.initialized (yX9_makeBracket).cls ∈ tw_l ∧ ((yX9_makeBracket).cls ≠ "java/lang/invoke/MethodHandle" ∧ (yX9_makeBracket).cls ≠ "java/lang/invoke/VarHandle") ∧ (parseMethodDescriptor (yX9_makeBracket).desc).map (fun d => d.parameters.length) = some 2 ∧ (mX9_makeBracket).2.2.1 ≤ 100 := ⟨wd_843, wd_119, by decide +kernel, by decide +kernel, by decide⟩
theorem ck_X9_makePolynomial : Cond.code yX9_makePolynomial (mX9_makePolynomial).2.1 (mX9_makePolynomial).2.2.1 (mX9_makePolynomial).2.2.2.1 ∈ tw_l ∧ Cond.initialized (yX9_makePolynomial).cls ∈ tw_l ∧ ((yX9_makePolynomial).cls ≠ "java/lang/invoke/MethodHandle" ∧ (yX9_makePolynomial).cls ≠ "java/lang/invoke/VarHandle") ∧ (parseMethodDescriptor (yX9_makePolynomial).desc).map (fun d => d.parameters.length) = some 2 ∧ (mX9_makePolynomial).2.2.1 ≤ 100 := ⟨wd_893, wd_119, by decide +kernel, by decide +kernel, by decide⟩
theorem ck_X9_smoothFrom : Cond.code yX9_smoothFrom (mX9_smoothFrom).2.1 (mX9_smoothFrom).2.2.1 (mX9_smoothFrom).2.2.2.1 ∈ tw_l ∧ Cond.initialized (yX9_smoothFrom).cls ∈ tw_l ∧ ((yX9_smoothFrom).cls ≠ "java/lang/invoke/MethodHandle" ∧ (yX9_smoothFrom).cls ≠ "java/lang/invoke/VarHandle") ∧ (parseMethodDescriptor (yX9_smoothFrom).desc).map (fun d => d.parameters.length) = some 3 ∧ (mX9_smoothFrom).2.2.1 ≤ 100 := ⟨wd_850, wd_119, by decide +kernel, by decide +kernel, by decide⟩
theorem ck_X9_tie : Cond.code yX9_tie (mX9_tie).2.1 (mX9_tie).2.2.1 (mX9_tie).2.2.2.1 ∈ tw_l ∧ Cond.initialized (yX9_tie).cls ∈ tw_l ∧ ((yX9_tie).cls ≠ "java/lang/invoke/MethodHandle" ∧ (yX9_tie).cls ≠ "java/lang/invoke/VarHandle") ∧ (parseMethodDescriptor (yX9_tie).desc).map (fun d => d.parameters.length) = some 2 ∧ (mX9_tie).2.2.1 ≤ 100 := ⟨wd_854, wd_119, by decide +kernel, by decide +kernel, by decide⟩
theorem ck_X9_untie : Cond.code yX9_untie (mX9_untie).2.1 (mX9_untie).2.2.1 (mX9_untie).2.2.2.1 ∈ tw_l ∧ Cond.initialized (yX9_untie).cls ∈ tw_l ∧ ((yX9_untie).cls ≠ "java/lang/invoke/MethodHandle" ∧ (yX9_untie).cls ≠ "java/lang/invoke/VarHandle") ∧ (parseMethodDescriptor (yX9_untie).desc).map (fun d => d.parameters.length) = some 2 ∧ (mX9_untie).2.2.1 ≤ 100 := ⟨wd_858, wd_119, by decide +kernel, by decide +kernel, by decide⟩
theorem ck_X10_init : Cond.code yX10_init (mX10_init).2.1 (mX10_init).2.2.1 (mX10_init).2.2.2.1 ∈ tw_l ∧ Cond.initialized (yX10_init).cls ∈ tw_l ∧ ((yX10_init).cls ≠ "java/lang/invoke/MethodHandle" ∧ (yX10_init).cls ≠ "java/lang/invoke/VarHandle") ∧ (parseMethodDescriptor (yX10_init).desc).map (fun d => d.parameters.length) = some 0 ∧ (mX10_init).2.2.1 ≤ 100 := ⟨wd_359, wd_123, by decide +kernel, by decide +kernel, by decide⟩
theorem ck_X10_hold : Cond.code yX10_hold (mX10_hold).2.1 (mX10_hold).2.2.1 (mX10_hold).2.2.2.1 ∈ tw_l ∧ Cond.initialized (yX10_hold).cls ∈ tw_l ∧ ((yX10_hold).cls ≠ "java/lang/invoke/MethodHandle" ∧ (yX10_hold).cls ≠ "java/lang/invoke/VarHandle") ∧ (parseMethodDescriptor (yX10_hold).desc).map (fun d => d.parameters.length) = some 2 ∧ (mX10_hold).2.2.1 ≤ 100 := ⟨wd_1219, wd_123, by decide +kernel, by decide +kernel, by decide⟩
theorem ck_X10_pourInto : Cond.code yX10_pourInto (mX10_pourInto).2.1 (mX10_pourInto).2.2.1 (mX10_pourInto).2.2.2.1 ∈ tw_l ∧ Cond.initialized (yX10_pourInto).cls ∈ tw_l ∧ ((yX10_pourInto).cls ≠ "java/lang/invoke/MethodHandle" ∧ (yX10_pourInto).cls ≠ "java/lang/invoke/VarHandle") ∧ (parseMethodDescriptor (yX10_pourInto).desc).map (fun d => d.parameters.length) = some 1 ∧ (mX10_pourInto).2.2.1 ≤ 100 := ⟨wd_1238, wd_123, by decide +kernel, by decide +kernel, by decide⟩
theorem ck_X10_sharesMark : Cond.code yX10_sharesMark (mX10_sharesMark).2.1 (mX10_sharesMark).2.2.1 (mX10_sharesMark).2.2.2.1 ∈ tw_l ∧ Cond.initialized (yX10_sharesMark).cls ∈ tw_l ∧ ((yX10_sharesMark).cls ≠ "java/lang/invoke/MethodHandle" ∧ (yX10_sharesMark).cls ≠ "java/lang/invoke/VarHandle") ∧ (parseMethodDescriptor (yX10_sharesMark).desc).map (fun d => d.parameters.length) = some 1 ∧ (mX10_sharesMark).2.2.1 ≤ 100 := ⟨wd_1229, wd_123, by decide +kernel, by decide +kernel, by decide⟩
theorem ck_X11_init : Cond.code yX11_init (mX11_init).2.1 (mX11_init).2.2.1 (mX11_init).2.2.2.1 ∈ tw_l ∧ Cond.initialized (yX11_init).cls ∈ tw_l ∧ ((yX11_init).cls ≠ "java/lang/invoke/MethodHandle" ∧ (yX11_init).cls ≠ "java/lang/invoke/VarHandle") ∧ (parseMethodDescriptor (yX11_init).desc).map (fun d => d.parameters.length) = some 0 ∧ (mX11_init).2.2.1 ≤ 100 := ⟨wd_133, wd_113, by decide +kernel, by decide +kernel, by decide⟩
theorem ck_X11_hasPicture : Cond.code yX11_hasPicture (mX11_hasPicture).2.1 (mX11_hasPicture).2.2.1 (mX11_hasPicture).2.2.2.1 ∈ tw_l ∧ Cond.initialized (yX11_hasPicture).cls ∈ tw_l ∧ ((yX11_hasPicture).cls ≠ "java/lang/invoke/MethodHandle" ∧ (yX11_hasPicture).cls ≠ "java/lang/invoke/VarHandle") ∧ (parseMethodDescriptor (yX11_hasPicture).desc).map (fun d => d.parameters.length) = some 1 ∧ (mX11_hasPicture).2.2.1 ≤ 100 := ⟨wd_585, wd_113, by decide +kernel, by decide +kernel, by decide⟩
theorem ck_X11_hasMove : Cond.code yX11_hasMove (mX11_hasMove).2.1 (mX11_hasMove).2.2.1 (mX11_hasMove).2.2.2.1 ∈ tw_l ∧ Cond.initialized (yX11_hasMove).cls ∈ tw_l ∧ ((yX11_hasMove).cls ≠ "java/lang/invoke/MethodHandle" ∧ (yX11_hasMove).cls ≠ "java/lang/invoke/VarHandle") ∧ (parseMethodDescriptor (yX11_hasMove).desc).map (fun d => d.parameters.length) = some 1 ∧ (mX11_hasMove).2.2.1 ≤ 100 := ⟨wd_1022, wd_113, by decide +kernel, by decide +kernel, by decide⟩
theorem ck_X11_isWhole : Cond.code yX11_isWhole (mX11_isWhole).2.1 (mX11_isWhole).2.2.1 (mX11_isWhole).2.2.2.1 ∈ tw_l ∧ Cond.initialized (yX11_isWhole).cls ∈ tw_l ∧ ((yX11_isWhole).cls ≠ "java/lang/invoke/MethodHandle" ∧ (yX11_isWhole).cls ≠ "java/lang/invoke/VarHandle") ∧ (parseMethodDescriptor (yX11_isWhole).desc).map (fun d => d.parameters.length) = some 2 ∧ (mX11_isWhole).2.2.1 ≤ 100 := ⟨wd_696, wd_113, by decide +kernel, by decide +kernel, by decide⟩
theorem ck_X11_refuse : Cond.code yX11_refuse (mX11_refuse).2.1 (mX11_refuse).2.2.1 (mX11_refuse).2.2.2.1 ∈ tw_l ∧ Cond.initialized (yX11_refuse).cls ∈ tw_l ∧ ((yX11_refuse).cls ≠ "java/lang/invoke/MethodHandle" ∧ (yX11_refuse).cls ≠ "java/lang/invoke/VarHandle") ∧ (parseMethodDescriptor (yX11_refuse).desc).map (fun d => d.parameters.length) = some 1 ∧ (mX11_refuse).2.2.1 ≤ 100 := ⟨wd_558, wd_113, by decide +kernel, by decide +kernel, by decide⟩
theorem ck_X11_grant : Cond.code yX11_grant (mX11_grant).2.1 (mX11_grant).2.2.1 (mX11_grant).2.2.2.1 ∈ tw_l ∧ Cond.initialized (yX11_grant).cls ∈ tw_l ∧ ((yX11_grant).cls ≠ "java/lang/invoke/MethodHandle" ∧ (yX11_grant).cls ≠ "java/lang/invoke/VarHandle") ∧ (parseMethodDescriptor (yX11_grant).desc).map (fun d => d.parameters.length) = some 1 ∧ (mX11_grant).2.2.1 ≤ 100 := ⟨wd_577, wd_113, by decide +kernel, by decide +kernel, by decide⟩
theorem ck_X11_isFull : Cond.code yX11_isFull (mX11_isFull).2.1 (mX11_isFull).2.2.1 (mX11_isFull).2.2.2.1 ∈ tw_l ∧ Cond.initialized (yX11_isFull).cls ∈ tw_l ∧ ((yX11_isFull).cls ≠ "java/lang/invoke/MethodHandle" ∧ (yX11_isFull).cls ≠ "java/lang/invoke/VarHandle") ∧ (parseMethodDescriptor (yX11_isFull).desc).map (fun d => d.parameters.length) = some 0 ∧ (mX11_isFull).2.2.1 ≤ 100 := ⟨wd_554, wd_113, by decide +kernel, by decide +kernel, by decide⟩
theorem ck_X11_addLike : Cond.code yX11_addLike (mX11_addLike).2.1 (mX11_addLike).2.2.1 (mX11_addLike).2.2.2.1 ∈ tw_l ∧ Cond.initialized (yX11_addLike).cls ∈ tw_l ∧ ((yX11_addLike).cls ≠ "java/lang/invoke/MethodHandle" ∧ (yX11_addLike).cls ≠ "java/lang/invoke/VarHandle") ∧ (parseMethodDescriptor (yX11_addLike).desc).map (fun d => d.parameters.length) = some 1 ∧ (mX11_addLike).2.2.1 ≤ 100 := ⟨wd_566, wd_113, by decide +kernel, by decide +kernel, by decide⟩
theorem ck_X11_picture : Cond.code yX11_picture (mX11_picture).2.1 (mX11_picture).2.2.1 (mX11_picture).2.2.2.1 ∈ tw_l ∧ Cond.initialized (yX11_picture).cls ∈ tw_l ∧ ((yX11_picture).cls ≠ "java/lang/invoke/MethodHandle" ∧ (yX11_picture).cls ≠ "java/lang/invoke/VarHandle") ∧ (parseMethodDescriptor (yX11_picture).desc).map (fun d => d.parameters.length) = some 0 ∧ (mX11_picture).2.2.1 ≤ 100 := ⟨wd_550, wd_113, by decide +kernel, by decide +kernel, by decide⟩
theorem ck_X11_isArc : Cond.code yX11_isArc (mX11_isArc).2.1 (mX11_isArc).2.2.1 (mX11_isArc).2.2.2.1 ∈ tw_l ∧ Cond.initialized (yX11_isArc).cls ∈ tw_l ∧ ((yX11_isArc).cls ≠ "java/lang/invoke/MethodHandle" ∧ (yX11_isArc).cls ≠ "java/lang/invoke/VarHandle") ∧ (parseMethodDescriptor (yX11_isArc).desc).map (fun d => d.parameters.length) = some 1 ∧ (mX11_isArc).2.2.1 ≤ 100 := ⟨wd_588, wd_113, by decide +kernel, by decide +kernel, by decide⟩
theorem ck_X11_crossing : Cond.code yX11_crossing (mX11_crossing).2.1 (mX11_crossing).2.2.1 (mX11_crossing).2.2.2.1 ∈ tw_l ∧ Cond.initialized (yX11_crossing).cls ∈ tw_l ∧ ((yX11_crossing).cls ≠ "java/lang/invoke/MethodHandle" ∧ (yX11_crossing).cls ≠ "java/lang/invoke/VarHandle") ∧ (parseMethodDescriptor (yX11_crossing).desc).map (fun d => d.parameters.length) = some 5 ∧ (mX11_crossing).2.2.1 ≤ 100 := ⟨wd_581, wd_113, by decide +kernel, by decide +kernel, by decide⟩
theorem ck_X11_row : Cond.code yX11_row (mX11_row).2.1 (mX11_row).2.2.1 (mX11_row).2.2.2.1 ∈ tw_l ∧ Cond.initialized (yX11_row).cls ∈ tw_l ∧ ((yX11_row).cls ≠ "java/lang/invoke/MethodHandle" ∧ (yX11_row).cls ≠ "java/lang/invoke/VarHandle") ∧ (parseMethodDescriptor (yX11_row).desc).map (fun d => d.parameters.length) = some 3 ∧ (mX11_row).2.2.1 ≤ 100 := ⟨wd_600, wd_113, by decide +kernel, by decide +kernel, by decide⟩
theorem ck_X11_whyOutOfReach : Cond.code yX11_whyOutOfReach (mX11_whyOutOfReach).2.1 (mX11_whyOutOfReach).2.2.1 (mX11_whyOutOfReach).2.2.2.1 ∈ tw_l ∧ Cond.initialized (yX11_whyOutOfReach).cls ∈ tw_l ∧ ((yX11_whyOutOfReach).cls ≠ "java/lang/invoke/MethodHandle" ∧ (yX11_whyOutOfReach).cls ≠ "java/lang/invoke/VarHandle") ∧ (parseMethodDescriptor (yX11_whyOutOfReach).desc).map (fun d => d.parameters.length) = some 3 ∧ (mX11_whyOutOfReach).2.2.1 ≤ 100 := ⟨wd_616, wd_113, by decide +kernel, by decide +kernel, by decide⟩
theorem ck_X11_end : Cond.code yX11_end (mX11_end).2.1 (mX11_end).2.2.1 (mX11_end).2.2.2.1 ∈ tw_l ∧ Cond.initialized (yX11_end).cls ∈ tw_l ∧ ((yX11_end).cls ≠ "java/lang/invoke/MethodHandle" ∧ (yX11_end).cls ≠ "java/lang/invoke/VarHandle") ∧ (parseMethodDescriptor (yX11_end).desc).map (fun d => d.parameters.length) = some 3 ∧ (mX11_end).2.2.1 ≤ 100 := ⟨wd_613, wd_113, by decide +kernel, by decide +kernel, by decide⟩
theorem ck_X11_put : Cond.code yX11_put (mX11_put).2.1 (mX11_put).2.2.1 (mX11_put).2.2.2.1 ∈ tw_l ∧ Cond.initialized (yX11_put).cls ∈ tw_l ∧ ((yX11_put).cls ≠ "java/lang/invoke/MethodHandle" ∧ (yX11_put).cls ≠ "java/lang/invoke/VarHandle") ∧ (parseMethodDescriptor (yX11_put).desc).map (fun d => d.parameters.length) = some 4 ∧ (mX11_put).2.2.1 ≤ 100 := ⟨wd_620, wd_113, by decide +kernel, by decide +kernel, by decide⟩
theorem ck_X11_reaches : Cond.code yX11_reaches (mX11_reaches).2.1 (mX11_reaches).2.2.1 (mX11_reaches).2.2.2.1 ∈ tw_l ∧ Cond.initialized (yX11_reaches).cls ∈ tw_l ∧ ((yX11_reaches).cls ≠ "java/lang/invoke/MethodHandle" ∧ (yX11_reaches).cls ≠ "java/lang/invoke/VarHandle") ∧ (parseMethodDescriptor (yX11_reaches).desc).map (fun d => d.parameters.length) = some 3 ∧ (mX11_reaches).2.2.1 ≤ 100 := ⟨wd_627, wd_113, by decide +kernel, by decide +kernel, by decide⟩
theorem ck_X11_copy : Cond.code yX11_copy (mX11_copy).2.1 (mX11_copy).2.2.1 (mX11_copy).2.2.2.1 ∈ tw_l ∧ Cond.initialized (yX11_copy).cls ∈ tw_l ∧ ((yX11_copy).cls ≠ "java/lang/invoke/MethodHandle" ∧ (yX11_copy).cls ≠ "java/lang/invoke/VarHandle") ∧ (parseMethodDescriptor (yX11_copy).desc).map (fun d => d.parameters.length) = some 7 ∧ (mX11_copy).2.2.1 ≤ 100 := ⟨wd_624, wd_113, by decide +kernel, by decide +kernel, by decide⟩
theorem ck_X11_loose : Cond.code yX11_loose (mX11_loose).2.1 (mX11_loose).2.2.1 (mX11_loose).2.2.2.1 ∈ tw_l ∧ Cond.initialized (yX11_loose).cls ∈ tw_l ∧ ((yX11_loose).cls ≠ "java/lang/invoke/MethodHandle" ∧ (yX11_loose).cls ≠ "java/lang/invoke/VarHandle") ∧ (parseMethodDescriptor (yX11_loose).desc).map (fun d => d.parameters.length) = some 2 ∧ (mX11_loose).2.2.1 ≤ 100 := ⟨wd_632, wd_113, by decide +kernel, by decide +kernel, by decide⟩
theorem ck_X11_open : Cond.code yX11_open (mX11_open).2.1 (mX11_open).2.2.1 (mX11_open).2.2.2.1 ∈ tw_l ∧ Cond.initialized (yX11_open).cls ∈ tw_l ∧ ((yX11_open).cls ≠ "java/lang/invoke/MethodHandle" ∧ (yX11_open).cls ≠ "java/lang/invoke/VarHandle") ∧ (parseMethodDescriptor (yX11_open).desc).map (fun d => d.parameters.length) = some 1 ∧ (mX11_open).2.2.1 ≤ 100 := ⟨wd_636, wd_113, by decide +kernel, by decide +kernel, by decide⟩
theorem ck_X11_where : Cond.code yX11_where (mX11_where).2.1 (mX11_where).2.2.1 (mX11_where).2.2.2.1 ∈ tw_l ∧ Cond.initialized (yX11_where).cls ∈ tw_l ∧ ((yX11_where).cls ≠ "java/lang/invoke/MethodHandle" ∧ (yX11_where).cls ≠ "java/lang/invoke/VarHandle") ∧ (parseMethodDescriptor (yX11_where).desc).map (fun d => d.parameters.length) = some 0 ∧ (mX11_where).2.2.1 ≤ 100 := ⟨wd_688, wd_113, by decide +kernel, by decide +kernel, by decide⟩
theorem ck_X11_told : Cond.code yX11_told (mX11_told).2.1 (mX11_told).2.2.1 (mX11_told).2.2.2.1 ∈ tw_l ∧ Cond.initialized (yX11_told).cls ∈ tw_l ∧ ((yX11_told).cls ≠ "java/lang/invoke/MethodHandle" ∧ (yX11_told).cls ≠ "java/lang/invoke/VarHandle") ∧ (parseMethodDescriptor (yX11_told).desc).map (fun d => d.parameters.length) = some 2 ∧ (mX11_told).2.2.1 ≤ 100 := ⟨wd_692, wd_113, by decide +kernel, by decide +kernel, by decide⟩
theorem ck_X11_mirror : Cond.code yX11_mirror (mX11_mirror).2.1 (mX11_mirror).2.2.1 (mX11_mirror).2.2.2.1 ∈ tw_l ∧ Cond.initialized (yX11_mirror).cls ∈ tw_l ∧ ((yX11_mirror).cls ≠ "java/lang/invoke/MethodHandle" ∧ (yX11_mirror).cls ≠ "java/lang/invoke/VarHandle") ∧ (parseMethodDescriptor (yX11_mirror).desc).map (fun d => d.parameters.length) = some 1 ∧ (mX11_mirror).2.2.1 ≤ 100 := ⟨wd_704, wd_113, by decide +kernel, by decide +kernel, by decide⟩
theorem ck_X11_turn : Cond.code yX11_turn (mX11_turn).2.1 (mX11_turn).2.2.1 (mX11_turn).2.2.2.1 ∈ tw_l ∧ Cond.initialized (yX11_turn).cls ∈ tw_l ∧ ((yX11_turn).cls ≠ "java/lang/invoke/MethodHandle" ∧ (yX11_turn).cls ≠ "java/lang/invoke/VarHandle") ∧ (parseMethodDescriptor (yX11_turn).desc).map (fun d => d.parameters.length) = some 1 ∧ (mX11_turn).2.2.1 ≤ 100 := ⟨wd_720, wd_113, by decide +kernel, by decide +kernel, by decide⟩
theorem ck_X11_join : Cond.code yX11_join (mX11_join).2.1 (mX11_join).2.2.1 (mX11_join).2.2.2.1 ∈ tw_l ∧ Cond.initialized (yX11_join).cls ∈ tw_l ∧ ((yX11_join).cls ≠ "java/lang/invoke/MethodHandle" ∧ (yX11_join).cls ≠ "java/lang/invoke/VarHandle") ∧ (parseMethodDescriptor (yX11_join).desc).map (fun d => d.parameters.length) = some 4 ∧ (mX11_join).2.2.1 ≤ 100 := ⟨wd_732, wd_113, by decide +kernel, by decide +kernel, by decide⟩
theorem ck_X11_twin : Cond.code yX11_twin (mX11_twin).2.1 (mX11_twin).2.2.1 (mX11_twin).2.2.2.1 ∈ tw_l ∧ Cond.initialized (yX11_twin).cls ∈ tw_l ∧ ((yX11_twin).cls ≠ "java/lang/invoke/MethodHandle" ∧ (yX11_twin).cls ≠ "java/lang/invoke/VarHandle") ∧ (parseMethodDescriptor (yX11_twin).desc).map (fun d => d.parameters.length) = some 1 ∧ (mX11_twin).2.2.1 ≤ 100 := ⟨wd_750, wd_113, by decide +kernel, by decide +kernel, by decide⟩
theorem ck_X11_undo : Cond.code yX11_undo (mX11_undo).2.1 (mX11_undo).2.2.1 (mX11_undo).2.2.2.1 ∈ tw_l ∧ Cond.initialized (yX11_undo).cls ∈ tw_l ∧ ((yX11_undo).cls ≠ "java/lang/invoke/MethodHandle" ∧ (yX11_undo).cls ≠ "java/lang/invoke/VarHandle") ∧ (parseMethodDescriptor (yX11_undo).desc).map (fun d => d.parameters.length) = some 1 ∧ (mX11_undo).2.2.1 ≤ 100 := ⟨wd_754, wd_113, by decide +kernel, by decide +kernel, by decide⟩
theorem ck_X11_sign : Cond.code yX11_sign (mX11_sign).2.1 (mX11_sign).2.2.1 (mX11_sign).2.2.2.1 ∈ tw_l ∧ Cond.initialized (yX11_sign).cls ∈ tw_l ∧ ((yX11_sign).cls ≠ "java/lang/invoke/MethodHandle" ∧ (yX11_sign).cls ≠ "java/lang/invoke/VarHandle") ∧ (parseMethodDescriptor (yX11_sign).desc).map (fun d => d.parameters.length) = some 2 ∧ (mX11_sign).2.2.1 ≤ 100 := ⟨wd_768, wd_113, by decide +kernel, by decide +kernel, by decide⟩
theorem ck_X11_pieceOf : Cond.code yX11_pieceOf (mX11_pieceOf).2.1 (mX11_pieceOf).2.2.1 (mX11_pieceOf).2.2.2.1 ∈ tw_l ∧ Cond.initialized (yX11_pieceOf).cls ∈ tw_l ∧ ((yX11_pieceOf).cls ≠ "java/lang/invoke/MethodHandle" ∧ (yX11_pieceOf).cls ≠ "java/lang/invoke/VarHandle") ∧ (parseMethodDescriptor (yX11_pieceOf).desc).map (fun d => d.parameters.length) = some 2 ∧ (mX11_pieceOf).2.2.1 ≤ 100 := ⟨wd_772, wd_113, by decide +kernel, by decide +kernel, by decide⟩
theorem ck_X11_linking : Cond.code yX11_linking (mX11_linking).2.1 (mX11_linking).2.2.1 (mX11_linking).2.2.2.1 ∈ tw_l ∧ Cond.initialized (yX11_linking).cls ∈ tw_l ∧ ((yX11_linking).cls ≠ "java/lang/invoke/MethodHandle" ∧ (yX11_linking).cls ≠ "java/lang/invoke/VarHandle") ∧ (parseMethodDescriptor (yX11_linking).desc).map (fun d => d.parameters.length) = some 3 ∧ (mX11_linking).2.2.1 ≤ 100 := ⟨wd_776, wd_113, by decide +kernel, by decide +kernel, by decide⟩
theorem ck_X11_isColourCount : Cond.code yX11_isColourCount (mX11_isColourCount).2.1 (mX11_isColourCount).2.2.1 (mX11_isColourCount).2.2.2.1 ∈ tw_l ∧ Cond.initialized (yX11_isColourCount).cls ∈ tw_l ∧ ((yX11_isColourCount).cls ≠ "java/lang/invoke/MethodHandle" ∧ (yX11_isColourCount).cls ≠ "java/lang/invoke/VarHandle") ∧ (parseMethodDescriptor (yX11_isColourCount).desc).map (fun d => d.parameters.length) = some 1 ∧ (mX11_isColourCount).2.2.1 ≤ 100 := ⟨wd_787, wd_113, by decide +kernel, by decide +kernel, by decide⟩
theorem ck_X11_colours : Cond.code yX11_colours (mX11_colours).2.1 (mX11_colours).2.2.1 (mX11_colours).2.2.2.1 ∈ tw_l ∧ Cond.initialized (yX11_colours).cls ∈ tw_l ∧ ((yX11_colours).cls ≠ "java/lang/invoke/MethodHandle" ∧ (yX11_colours).cls ≠ "java/lang/invoke/VarHandle") ∧ (parseMethodDescriptor (yX11_colours).desc).map (fun d => d.parameters.length) = some 2 ∧ (mX11_colours).2.2.1 ≤ 100 := ⟨wd_784, wd_113, by decide +kernel, by decide +kernel, by decide⟩
theorem ck_X11_whyNoBracket : Cond.code yX11_whyNoBracket (mX11_whyNoBracket).2.1 (mX11_whyNoBracket).2.2.1 (mX11_whyNoBracket).2.2.2.1 ∈ tw_l ∧ Cond.initialized (yX11_whyNoBracket).cls ∈ tw_l ∧ ((yX11_whyNoBracket).cls ≠ "java/lang/invoke/MethodHandle" ∧ (yX11_whyNoBracket).cls ≠ "java/lang/invoke/VarHandle") ∧ (parseMethodDescriptor (yX11_whyNoBracket).desc).map (fun d => d.parameters.length) = some 2 ∧ (mX11_whyNoBracket).2.2.1 ≤ 100 := ⟨wd_829, wd_113, by decide +kernel, by decide +kernel, by decide⟩
theorem ck_X11_bracket : Cond.code yX11_bracket (mX11_bracket).2.1 (mX11_bracket).2.2.1 (mX11_bracket).2.2.2.1 ∈ tw_l ∧ Cond.initialized (yX11_bracket).cls ∈ tw_l ∧ ((yX11_bracket).cls ≠ "java/lang/invoke/MethodHandle" ∧ (yX11_bracket).cls ≠ "java/lang/invoke/VarHandle") ∧ (parseMethodDescriptor (yX11_bracket).desc).map (fun d => d.parameters.length) = some 1 ∧ (mX11_bracket).2.2.1 ≤ 100 := ⟨wd_825, wd_113, by decide +kernel, by decide +kernel, by decide⟩
theorem ck_X11_polynomial : Cond.code yX11_polynomial (mX11_polynomial).2.1 (mX11_polynomial).2.2.1 (mX11_polynomial).2.2.2.1 ∈ tw_l ∧ Cond.initialized (yX11_polynomial).cls ∈ tw_l ∧ ((yX11_polynomial).cls ≠ "java/lang/invoke/MethodHandle" ∧ (yX11_polynomial).cls ≠ "java/lang/invoke/VarHandle") ∧ (parseMethodDescriptor (yX11_polynomial).desc).map (fun d => d.parameters.length) = some 1 ∧ (mX11_polynomial).2.2.1 ≤ 100 := ⟨wd_889, wd_113, by decide +kernel, by decide +kernel, by decide⟩
theorem ck_X11_at : Cond.code yX11_at (mX11_at).2.1 (mX11_at).2.2.1 (mX11_at).2.2.2.1 ∈ tw_l ∧ Cond.initialized (yX11_at).cls ∈ tw_l ∧ ((yX11_at).cls ≠ "java/lang/invoke/MethodHandle" ∧ (yX11_at).cls ≠ "java/lang/invoke/VarHandle") ∧ (parseMethodDescriptor (yX11_at).desc).map (fun d => d.parameters.length) = some 1 ∧ (mX11_at).2.2.1 ≤ 100 := ⟨wd_902, wd_113, by decide +kernel, by decide +kernel, by decide⟩
theorem ck_X11_power : Cond.code yX11_power (mX11_power).2.1 (mX11_power).2.2.1 (mX11_power).2.2.2.1 ∈ tw_l ∧ Cond.initialized (yX11_power).cls ∈ tw_l ∧ ((yX11_power).cls ≠ "java/lang/invoke/MethodHandle" ∧ (yX11_power).cls ≠ "java/lang/invoke/VarHandle") ∧ (parseMethodDescriptor (yX11_power).desc).map (fun d => d.parameters.length) = some 1 ∧ (mX11_power).2.2.1 ≤ 100 := ⟨wd_907, wd_113, by decide +kernel, by decide +kernel, by decide⟩
theorem ck_X11_determinant : Cond.code yX11_determinant (mX11_determinant).2.1 (mX11_determinant).2.2.1 (mX11_determinant).2.2.2.1 ∈ tw_l ∧ Cond.initialized (yX11_determinant).cls ∈ tw_l ∧ ((yX11_determinant).cls ≠ "java/lang/invoke/MethodHandle" ∧ (yX11_determinant).cls ≠ "java/lang/invoke/VarHandle") ∧ (parseMethodDescriptor (yX11_determinant).desc).map (fun d => d.parameters.length) = some 1 ∧ (mX11_determinant).2.2.1 ≤ 100 := ⟨wd_919, wd_113, by decide +kernel, by decide +kernel, by decide⟩
theorem ck_X11_gauss : Cond.code yX11_gauss (mX11_gauss).2.1 (mX11_gauss).2.2.1 (mX11_gauss).2.2.2.1 ∈ tw_l ∧ Cond.initialized (yX11_gauss).cls ∈ tw_l ∧ ((yX11_gauss).cls ≠ "java/lang/invoke/MethodHandle" ∧ (yX11_gauss).cls ≠ "java/lang/invoke/VarHandle") ∧ (parseMethodDescriptor (yX11_gauss).desc).map (fun d => d.parameters.length) = some 1 ∧ (mX11_gauss).2.2.1 ≤ 100 := ⟨wd_931, wd_113, by decide +kernel, by decide +kernel, by decide⟩
theorem ck_X11_type : Cond.code yX11_type (mX11_type).2.1 (mX11_type).2.2.1 (mX11_type).2.2.2.1 ∈ tw_l ∧ Cond.initialized (yX11_type).cls ∈ tw_l ∧ ((yX11_type).cls ≠ "java/lang/invoke/MethodHandle" ∧ (yX11_type).cls ≠ "java/lang/invoke/VarHandle") ∧ (parseMethodDescriptor (yX11_type).desc).map (fun d => d.parameters.length) = some 1 ∧ (mX11_type).2.2.1 ≤ 100 := ⟨wd_947, wd_113, by decide +kernel, by decide +kernel, by decide⟩
theorem ck_X11_clear : Cond.code yX11_clear (mX11_clear).2.1 (mX11_clear).2.2.1 (mX11_clear).2.2.2.1 ∈ tw_l ∧ Cond.initialized (yX11_clear).cls ∈ tw_l ∧ ((yX11_clear).cls ≠ "java/lang/invoke/MethodHandle" ∧ (yX11_clear).cls ≠ "java/lang/invoke/VarHandle") ∧ (parseMethodDescriptor (yX11_clear).desc).map (fun d => d.parameters.length) = some 0 ∧ (mX11_clear).2.2.1 ≤ 100 := ⟨wd_952, wd_113, by decide +kernel, by decide +kernel, by decide⟩
theorem ck_X11_item : Cond.code yX11_item (mX11_item).2.1 (mX11_item).2.2.1 (mX11_item).2.2.2.1 ∈ tw_l ∧ Cond.initialized (yX11_item).cls ∈ tw_l ∧ ((yX11_item).cls ≠ "java/lang/invoke/MethodHandle" ∧ (yX11_item).cls ≠ "java/lang/invoke/VarHandle") ∧ (parseMethodDescriptor (yX11_item).desc).map (fun d => d.parameters.length) = some 1 ∧ (mX11_item).2.2.1 ≤ 100 := ⟨wd_957, wd_113, by decide +kernel, by decide +kernel, by decide⟩
theorem ck_X11_ofGauss : Cond.code yX11_ofGauss (mX11_ofGauss).2.1 (mX11_ofGauss).2.2.1 (mX11_ofGauss).2.2.2.1 ∈ tw_l ∧ Cond.initialized (yX11_ofGauss).cls ∈ tw_l ∧ ((yX11_ofGauss).cls ≠ "java/lang/invoke/MethodHandle" ∧ (yX11_ofGauss).cls ≠ "java/lang/invoke/VarHandle") ∧ (parseMethodDescriptor (yX11_ofGauss).desc).map (fun d => d.parameters.length) = some 0 ∧ (mX11_ofGauss).2.2.1 ≤ 100 := ⟨wd_965, wd_113, by decide +kernel, by decide +kernel, by decide⟩
theorem ck_X11_isKind : Cond.code yX11_isKind (mX11_isKind).2.1 (mX11_isKind).2.2.1 (mX11_isKind).2.2.2.1 ∈ tw_l ∧ Cond.initialized (yX11_isKind).cls ∈ tw_l ∧ ((yX11_isKind).cls ≠ "java/lang/invoke/MethodHandle" ∧ (yX11_isKind).cls ≠ "java/lang/invoke/VarHandle") ∧ (parseMethodDescriptor (yX11_isKind).desc).map (fun d => d.parameters.length) = some 1 ∧ (mX11_isKind).2.2.1 ≤ 100 := ⟨wd_996, wd_113, by decide +kernel, by decide +kernel, by decide⟩
theorem ck_X11_move : Cond.code yX11_move (mX11_move).2.1 (mX11_move).2.2.1 (mX11_move).2.2.2.1 ∈ tw_l ∧ Cond.initialized (yX11_move).cls ∈ tw_l ∧ ((yX11_move).cls ≠ "java/lang/invoke/MethodHandle" ∧ (yX11_move).cls ≠ "java/lang/invoke/VarHandle") ∧ (parseMethodDescriptor (yX11_move).desc).map (fun d => d.parameters.length) = some 4 ∧ (mX11_move).2.2.1 ≤ 100 := ⟨wd_993, wd_113, by decide +kernel, by decide +kernel, by decide⟩
theorem ck_X11_tells : Cond.code yX11_tells (mX11_tells).2.1 (mX11_tells).2.2.1 (mX11_tells).2.2.2.1 ∈ tw_l ∧ Cond.initialized (yX11_tells).cls ∈ tw_l ∧ ((yX11_tells).cls ≠ "java/lang/invoke/MethodHandle" ∧ (yX11_tells).cls ≠ "java/lang/invoke/VarHandle") ∧ (parseMethodDescriptor (yX11_tells).desc).map (fun d => d.parameters.length) = some 2 ∧ (mX11_tells).2.2.1 ≤ 100 := ⟨wd_1018, wd_113, by decide +kernel, by decide +kernel, by decide⟩
theorem ck_X11_as : Cond.code yX11_as (mX11_as).2.1 (mX11_as).2.2.1 (mX11_as).2.2.2.1 ∈ tw_l ∧ Cond.initialized (yX11_as).cls ∈ tw_l ∧ ((yX11_as).cls ≠ "java/lang/invoke/MethodHandle" ∧ (yX11_as).cls ≠ "java/lang/invoke/VarHandle") ∧ (parseMethodDescriptor (yX11_as).desc).map (fun d => d.parameters.length) = some 2 ∧ (mX11_as).2.2.1 ≤ 100 := ⟨wd_1038, wd_113, by decide +kernel, by decide +kernel, by decide⟩
theorem ck_X11_tryMove : Cond.code yX11_tryMove (mX11_tryMove).2.1 (mX11_tryMove).2.2.1 (mX11_tryMove).2.2.2.1 ∈ tw_l ∧ Cond.initialized (yX11_tryMove).cls ∈ tw_l ∧ ((yX11_tryMove).cls ≠ "java/lang/invoke/MethodHandle" ∧ (yX11_tryMove).cls ≠ "java/lang/invoke/VarHandle") ∧ (parseMethodDescriptor (yX11_tryMove).desc).map (fun d => d.parameters.length) = some 2 ∧ (mX11_tryMove).2.2.1 ≤ 100 := ⟨wd_1052, wd_113, by decide +kernel, by decide +kernel, by decide⟩
theorem ck_X11_tryUndoing : Cond.code yX11_tryUndoing (mX11_tryUndoing).2.1 (mX11_tryUndoing).2.2.1 (mX11_tryUndoing).2.2.2.1 ∈ tw_l ∧ Cond.initialized (yX11_tryUndoing).cls ∈ tw_l ∧ ((yX11_tryUndoing).cls ≠ "java/lang/invoke/MethodHandle" ∧ (yX11_tryUndoing).cls ≠ "java/lang/invoke/VarHandle") ∧ (parseMethodDescriptor (yX11_tryUndoing).desc).map (fun d => d.parameters.length) = some 2 ∧ (mX11_tryUndoing).2.2.1 ≤ 100 := ⟨wd_1145, wd_113, by decide +kernel, by decide +kernel, by decide⟩
theorem ck_X11_settle : Cond.code yX11_settle (mX11_settle).2.1 (mX11_settle).2.2.1 (mX11_settle).2.2.2.1 ∈ tw_l ∧ Cond.initialized (yX11_settle).cls ∈ tw_l ∧ ((yX11_settle).cls ≠ "java/lang/invoke/MethodHandle" ∧ (yX11_settle).cls ≠ "java/lang/invoke/VarHandle") ∧ (parseMethodDescriptor (yX11_settle).desc).map (fun d => d.parameters.length) = some 2 ∧ (mX11_settle).2.2.1 ≤ 100 := ⟨wd_1137, wd_113, by decide +kernel, by decide +kernel, by decide⟩
theorem ck_X11_may : Cond.code yX11_may (mX11_may).2.1 (mX11_may).2.2.1 (mX11_may).2.2.2.1 ∈ tw_l ∧ Cond.initialized (yX11_may).cls ∈ tw_l ∧ ((yX11_may).cls ≠ "java/lang/invoke/MethodHandle" ∧ (yX11_may).cls ≠ "java/lang/invoke/VarHandle") ∧ (parseMethodDescriptor (yX11_may).desc).map (fun d => d.parameters.length) = some 2 ∧ (mX11_may).2.2.1 ≤ 100 := ⟨wd_1048, wd_113, by decide +kernel, by decide +kernel, by decide⟩
theorem ck_X11_does : Cond.code yX11_does (mX11_does).2.1 (mX11_does).2.2.1 (mX11_does).2.2.2.1 ∈ tw_l ∧ Cond.initialized (yX11_does).cls ∈ tw_l ∧ ((yX11_does).cls ≠ "java/lang/invoke/MethodHandle" ∧ (yX11_does).cls ≠ "java/lang/invoke/VarHandle") ∧ (parseMethodDescriptor (yX11_does).desc).map (fun d => d.parameters.length) = some 2 ∧ (mX11_does).2.2.1 ≤ 100 := ⟨wd_1133, wd_113, by decide +kernel, by decide +kernel, by decide⟩
theorem ck_X11_undoes : Cond.code yX11_undoes (mX11_undoes).2.1 (mX11_undoes).2.2.1 (mX11_undoes).2.2.2.1 ∈ tw_l ∧ Cond.initialized (yX11_undoes).cls ∈ tw_l ∧ ((yX11_undoes).cls ≠ "java/lang/invoke/MethodHandle" ∧ (yX11_undoes).cls ≠ "java/lang/invoke/VarHandle") ∧ (parseMethodDescriptor (yX11_undoes).desc).map (fun d => d.parameters.length) = some 2 ∧ (mX11_undoes).2.2.1 ≤ 100 := ⟨wd_1141, wd_113, by decide +kernel, by decide +kernel, by decide⟩
theorem ck_X11_trace : Cond.code yX11_trace (mX11_trace).2.1 (mX11_trace).2.2.1 (mX11_trace).2.2.2.1 ∈ tw_l ∧ Cond.initialized (yX11_trace).cls ∈ tw_l ∧ ((yX11_trace).cls ≠ "java/lang/invoke/MethodHandle" ∧ (yX11_trace).cls ≠ "java/lang/invoke/VarHandle") ∧ (parseMethodDescriptor (yX11_trace).desc).map (fun d => d.parameters.length) = some 1 ∧ (mX11_trace).2.2.1 ≤ 100 := ⟨wd_1171, wd_113, by decide +kernel, by decide +kernel, by decide⟩
theorem ck_X11_like : Cond.code yX11_like (mX11_like).2.1 (mX11_like).2.2.1 (mX11_like).2.2.2.1 ∈ tw_l ∧ Cond.initialized (yX11_like).cls ∈ tw_l ∧ ((yX11_like).cls ≠ "java/lang/invoke/MethodHandle" ∧ (yX11_like).cls ≠ "java/lang/invoke/VarHandle") ∧ (parseMethodDescriptor (yX11_like).desc).map (fun d => d.parameters.length) = some 2 ∧ (mX11_like).2.2.1 ≤ 100 := ⟨wd_1175, wd_113, by decide +kernel, by decide +kernel, by decide⟩
theorem ck_X11_isStepCount : Cond.code yX11_isStepCount (mX11_isStepCount).2.1 (mX11_isStepCount).2.2.1 (mX11_isStepCount).2.2.2.1 ∈ tw_l ∧ Cond.initialized (yX11_isStepCount).cls ∈ tw_l ∧ ((yX11_isStepCount).cls ≠ "java/lang/invoke/MethodHandle" ∧ (yX11_isStepCount).cls ≠ "java/lang/invoke/VarHandle") ∧ (parseMethodDescriptor (yX11_isStepCount).desc).map (fun d => d.parameters.length) = some 1 ∧ (mX11_isStepCount).2.2.1 ≤ 100 := ⟨wd_1204, wd_113, by decide +kernel, by decide +kernel, by decide⟩
theorem ck_X11_search : Cond.code yX11_search (mX11_search).2.1 (mX11_search).2.2.1 (mX11_search).2.2.2.1 ∈ tw_l ∧ Cond.initialized (yX11_search).cls ∈ tw_l ∧ ((yX11_search).cls ≠ "java/lang/invoke/MethodHandle" ∧ (yX11_search).cls ≠ "java/lang/invoke/VarHandle") ∧ (parseMethodDescriptor (yX11_search).desc).map (fun d => d.parameters.length) = some 2 ∧ (mX11_search).2.2.1 ≤ 100 := ⟨wd_1201, wd_113, by decide +kernel, by decide +kernel, by decide⟩
theorem ck_X11_goOn : Cond.code yX11_goOn (mX11_goOn).2.1 (mX11_goOn).2.2.1 (mX11_goOn).2.2.2.1 ∈ tw_l ∧ Cond.initialized (yX11_goOn).cls ∈ tw_l ∧ ((yX11_goOn).cls ≠ "java/lang/invoke/MethodHandle" ∧ (yX11_goOn).cls ≠ "java/lang/invoke/VarHandle") ∧ (parseMethodDescriptor (yX11_goOn).desc).map (fun d => d.parameters.length) = some 1 ∧ (mX11_goOn).2.2.1 ≤ 100 := ⟨wd_1258, wd_113, by decide +kernel, by decide +kernel, by decide⟩
theorem ck_X11_searched : Cond.code yX11_searched (mX11_searched).2.1 (mX11_searched).2.2.1 (mX11_searched).2.2.2.1 ∈ tw_l ∧ Cond.initialized (yX11_searched).cls ∈ tw_l ∧ ((yX11_searched).cls ≠ "java/lang/invoke/MethodHandle" ∧ (yX11_searched).cls ≠ "java/lang/invoke/VarHandle") ∧ (parseMethodDescriptor (yX11_searched).desc).map (fun d => d.parameters.length) = some 1 ∧ (mX11_searched).2.2.1 ≤ 100 := ⟨wd_1262, wd_113, by decide +kernel, by decide +kernel, by decide⟩
theorem ck_X11_fewer : Cond.code yX11_fewer (mX11_fewer).2.1 (mX11_fewer).2.2.1 (mX11_fewer).2.2.2.1 ∈ tw_l ∧ Cond.initialized (yX11_fewer).cls ∈ tw_l ∧ ((yX11_fewer).cls ≠ "java/lang/invoke/MethodHandle" ∧ (yX11_fewer).cls ≠ "java/lang/invoke/VarHandle") ∧ (parseMethodDescriptor (yX11_fewer).desc).map (fun d => d.parameters.length) = some 0 ∧ (mX11_fewer).2.2.1 ≤ 100 := ⟨wd_1270, wd_113, by decide +kernel, by decide +kernel, by decide⟩
theorem ck_X11_partingNumber : Cond.code yX11_partingNumber (mX11_partingNumber).2.1 (mX11_partingNumber).2.2.1 (mX11_partingNumber).2.2.2.1 ∈ tw_l ∧ Cond.initialized (yX11_partingNumber).cls ∈ tw_l ∧ ((yX11_partingNumber).cls ≠ "java/lang/invoke/MethodHandle" ∧ (yX11_partingNumber).cls ≠ "java/lang/invoke/VarHandle") ∧ (parseMethodDescriptor (yX11_partingNumber).desc).map (fun d => d.parameters.length) = some 0 ∧ (mX11_partingNumber).2.2.1 ≤ 100 := ⟨wd_1289, wd_113, by decide +kernel, by decide +kernel, by decide⟩
theorem ck_X11_same : Cond.code yX11_same (mX11_same).2.1 (mX11_same).2.2.1 (mX11_same).2.2.2.1 ∈ tw_l ∧ Cond.initialized (yX11_same).cls ∈ tw_l ∧ ((yX11_same).cls ≠ "java/lang/invoke/MethodHandle" ∧ (yX11_same).cls ≠ "java/lang/invoke/VarHandle") ∧ (parseMethodDescriptor (yX11_same).desc).map (fun d => d.parameters.length) = some 3 ∧ (mX11_same).2.2.1 ≤ 100 := ⟨wd_1285, wd_113, by decide +kernel, by decide +kernel, by decide⟩
theorem ck_X11_parted : Cond.code yX11_parted (mX11_parted).2.1 (mX11_parted).2.2.1 (mX11_parted).2.2.2.1 ∈ tw_l ∧ Cond.initialized (yX11_parted).cls ∈ tw_l ∧ ((yX11_parted).cls ≠ "java/lang/invoke/MethodHandle" ∧ (yX11_parted).cls ≠ "java/lang/invoke/VarHandle") ∧ (parseMethodDescriptor (yX11_parted).desc).map (fun d => d.parameters.length) = some 0 ∧ (mX11_parted).2.2.1 ≤ 100 := ⟨wd_1306, wd_113, by decide +kernel, by decide +kernel, by decide⟩
theorem ck_X11_way : Cond.code yX11_way (mX11_way).2.1 (mX11_way).2.2.1 (mX11_way).2.2.2.1 ∈ tw_l ∧ Cond.initialized (yX11_way).cls ∈ tw_l ∧ ((yX11_way).cls ≠ "java/lang/invoke/MethodHandle" ∧ (yX11_way).cls ≠ "java/lang/invoke/VarHandle") ∧ (parseMethodDescriptor (yX11_way).desc).map (fun d => d.parameters.length) = some 1 ∧ (mX11_way).2.2.1 ≤ 100 := ⟨wd_1310, wd_113, by decide +kernel, by decide +kernel, by decide⟩
theorem ck_X11_goWays : Cond.code yX11_goWays (mX11_goWays).2.1 (mX11_goWays).2.2.1 (mX11_goWays).2.2.2.1 ∈ tw_l ∧ Cond.initialized (yX11_goWays).cls ∈ tw_l ∧ ((yX11_goWays).cls ≠ "java/lang/invoke/MethodHandle" ∧ (yX11_goWays).cls ≠ "java/lang/invoke/VarHandle") ∧ (parseMethodDescriptor (yX11_goWays).desc).map (fun d => d.parameters.length) = some 0 ∧ (mX11_goWays).2.2.1 ≤ 100 := ⟨wd_1318, wd_113, by decide +kernel, by decide +kernel, by decide⟩
theorem ck_X11_check : Cond.code yX11_check (mX11_check).2.1 (mX11_check).2.2.1 (mX11_check).2.2.2.1 ∈ tw_l ∧ Cond.initialized (yX11_check).cls ∈ tw_l ∧ ((yX11_check).cls ≠ "java/lang/invoke/MethodHandle" ∧ (yX11_check).cls ≠ "java/lang/invoke/VarHandle") ∧ (parseMethodDescriptor (yX11_check).desc).map (fun d => d.parameters.length) = some 1 ∧ (mX11_check).2.2.1 ≤ 100 := ⟨wd_1314, wd_113, by decide +kernel, by decide +kernel, by decide⟩
theorem ck_X11_book : Cond.code yX11_book (mX11_book).2.1 (mX11_book).2.2.1 (mX11_book).2.2.2.1 ∈ tw_l ∧ Cond.initialized (yX11_book).cls ∈ tw_l ∧ ((yX11_book).cls ≠ "java/lang/invoke/MethodHandle" ∧ (yX11_book).cls ≠ "java/lang/invoke/VarHandle") ∧ (parseMethodDescriptor (yX11_book).desc).map (fun d => d.parameters.length) = some 2 ∧ (mX11_book).2.2.1 ≤ 100 := ⟨wd_1324, wd_113, by decide +kernel, by decide +kernel, by decide⟩
theorem ck_X11_name : Cond.code yX11_name (mX11_name).2.1 (mX11_name).2.2.1 (mX11_name).2.2.2.1 ∈ tw_l ∧ Cond.initialized (yX11_name).cls ∈ tw_l ∧ ((yX11_name).cls ≠ "java/lang/invoke/MethodHandle" ∧ (yX11_name).cls ≠ "java/lang/invoke/VarHandle") ∧ (parseMethodDescriptor (yX11_name).desc).map (fun d => d.parameters.length) = some 1 ∧ (mX11_name).2.2.1 ≤ 100 := ⟨wd_1342, wd_113, by decide +kernel, by decide +kernel, by decide⟩
theorem ck_X11_count : Cond.code yX11_count (mX11_count).2.1 (mX11_count).2.2.1 (mX11_count).2.2.2.1 ∈ tw_l ∧ Cond.initialized (yX11_count).cls ∈ tw_l ∧ ((yX11_count).cls ≠ "java/lang/invoke/MethodHandle" ∧ (yX11_count).cls ≠ "java/lang/invoke/VarHandle") ∧ (parseMethodDescriptor (yX11_count).desc).map (fun d => d.parameters.length) = some 1 ∧ (mX11_count).2.2.1 ≤ 100 := ⟨wd_1351, wd_113, by decide +kernel, by decide +kernel, by decide⟩
theorem ck_X11_findings : Cond.code yX11_findings (mX11_findings).2.1 (mX11_findings).2.2.1 (mX11_findings).2.2.2.1 ∈ tw_l ∧ Cond.initialized (yX11_findings).cls ∈ tw_l ∧ ((yX11_findings).cls ≠ "java/lang/invoke/MethodHandle" ∧ (yX11_findings).cls ≠ "java/lang/invoke/VarHandle") ∧ (parseMethodDescriptor (yX11_findings).desc).map (fun d => d.parameters.length) = some 1 ∧ (mX11_findings).2.2.1 ≤ 100 := ⟨wd_1355, wd_113, by decide +kernel, by decide +kernel, by decide⟩
theorem ck_X11_status : Cond.code yX11_status (mX11_status).2.1 (mX11_status).2.2.1 (mX11_status).2.2.2.1 ∈ tw_l ∧ Cond.initialized (yX11_status).cls ∈ tw_l ∧ ((yX11_status).cls ≠ "java/lang/invoke/MethodHandle" ∧ (yX11_status).cls ≠ "java/lang/invoke/VarHandle") ∧ (parseMethodDescriptor (yX11_status).desc).map (fun d => d.parameters.length) = some 0 ∧ (mX11_status).2.2.1 ≤ 100 := ⟨wd_1359, wd_113, by decide +kernel, by decide +kernel, by decide⟩
theorem ck_X11_digest : Cond.code yX11_digest (mX11_digest).2.1 (mX11_digest).2.2.1 (mX11_digest).2.2.2.1 ∈ tw_l ∧ Cond.initialized (yX11_digest).cls ∈ tw_l ∧ ((yX11_digest).cls ≠ "java/lang/invoke/MethodHandle" ∧ (yX11_digest).cls ≠ "java/lang/invoke/VarHandle") ∧ (parseMethodDescriptor (yX11_digest).desc).map (fun d => d.parameters.length) = some 0 ∧ (mX11_digest).2.2.1 ≤ 100 := ⟨wd_1363, wd_113, by decide +kernel, by decide +kernel, by decide⟩
theorem ck_X11_corner : Cond.code yX11_corner (mX11_corner).2.1 (mX11_corner).2.2.1 (mX11_corner).2.2.2.1 ∈ tw_l ∧ Cond.initialized (yX11_corner).cls ∈ tw_l ∧ ((yX11_corner).cls ≠ "java/lang/invoke/MethodHandle" ∧ (yX11_corner).cls ≠ "java/lang/invoke/VarHandle") ∧ (parseMethodDescriptor (yX11_corner).desc).map (fun d => d.parameters.length) = some 2 ∧ (mX11_corner).2.2.1 ≤ 100 := ⟨wd_664, wd_113, by decide +kernel, by decide +kernel, by decide⟩
theorem ck_X12_init : Cond.code yX12_init (mX12_init).2.1 (mX12_init).2.2.1 (mX12_init).2.2.2.1 ∈ tw_l ∧ Cond.initialized (yX12_init).cls ∈ tw_l ∧ ((yX12_init).cls ≠ "java/lang/invoke/MethodHandle" ∧ (yX12_init).cls ≠ "java/lang/invoke/VarHandle") ∧ (parseMethodDescriptor (yX12_init).desc).map (fun d => d.parameters.length) = some 0 ∧ (mX12_init).2.2.1 ≤ 100 := ⟨wd_1374, wd_126, by decide +kernel, by decide +kernel, by decide⟩
theorem ck_X12_in : Cond.code yX12_in (mX12_in).2.1 (mX12_in).2.2.1 (mX12_in).2.2.2.1 ∈ tw_l ∧ Cond.initialized (yX12_in).cls ∈ tw_l ∧ ((yX12_in).cls ≠ "java/lang/invoke/MethodHandle" ∧ (yX12_in).cls ≠ "java/lang/invoke/VarHandle") ∧ (parseMethodDescriptor (yX12_in).desc).map (fun d => d.parameters.length) = some 3 ∧ (mX12_in).2.2.1 ≤ 100 := ⟨wd_1597, wd_126, by decide +kernel, by decide +kernel, by decide⟩
theorem ck_X12_no : Cond.code yX12_no (mX12_no).2.1 (mX12_no).2.2.1 (mX12_no).2.2.2.1 ∈ tw_l ∧ Cond.initialized (yX12_no).cls ∈ tw_l ∧ ((yX12_no).cls ≠ "java/lang/invoke/MethodHandle" ∧ (yX12_no).cls ≠ "java/lang/invoke/VarHandle") ∧ (parseMethodDescriptor (yX12_no).desc).map (fun d => d.parameters.length) = some 1 ∧ (mX12_no).2.2.1 ≤ 100 := ⟨wd_1582, wd_126, by decide +kernel, by decide +kernel, by decide⟩
theorem ck_X12_meets : Cond.code yX12_meets (mX12_meets).2.1 (mX12_meets).2.2.1 (mX12_meets).2.2.2.1 ∈ tw_l ∧ Cond.initialized (yX12_meets).cls ∈ tw_l ∧ ((yX12_meets).cls ≠ "java/lang/invoke/MethodHandle" ∧ (yX12_meets).cls ≠ "java/lang/invoke/VarHandle") ∧ (parseMethodDescriptor (yX12_meets).desc).map (fun d => d.parameters.length) = some 1 ∧ (mX12_meets).2.2.1 ≤ 100 := ⟨wd_1615, wd_126, by decide +kernel, by decide +kernel, by decide⟩
theorem ck_X12_well : Cond.code yX12_well (mX12_well).2.1 (mX12_well).2.2.1 (mX12_well).2.2.2.1 ∈ tw_l ∧ Cond.initialized (yX12_well).cls ∈ tw_l ∧ ((yX12_well).cls ≠ "java/lang/invoke/MethodHandle" ∧ (yX12_well).cls ≠ "java/lang/invoke/VarHandle") ∧ (parseMethodDescriptor (yX12_well).desc).map (fun d => d.parameters.length) = some 1 ∧ (mX12_well).2.2.1 ≤ 100 := ⟨wd_1586, wd_126, by decide +kernel, by decide +kernel, by decide⟩
theorem ck_X12_copySlot : Cond.code yX12_copySlot (mX12_copySlot).2.1 (mX12_copySlot).2.2.1 (mX12_copySlot).2.2.2.1 ∈ tw_l ∧ Cond.initialized (yX12_copySlot).cls ∈ tw_l ∧ ((yX12_copySlot).cls ≠ "java/lang/invoke/MethodHandle" ∧ (yX12_copySlot).cls ≠ "java/lang/invoke/VarHandle") ∧ (parseMethodDescriptor (yX12_copySlot).desc).map (fun d => d.parameters.length) = some 2 ∧ (mX12_copySlot).2.2.1 ≤ 100 := ⟨wd_1797, wd_126, by decide +kernel, by decide +kernel, by decide⟩
theorem ck_X12_isPicture : Cond.code yX12_isPicture (mX12_isPicture).2.1 (mX12_isPicture).2.2.1 (mX12_isPicture).2.2.2.1 ∈ tw_l ∧ Cond.initialized (yX12_isPicture).cls ∈ tw_l ∧ ((yX12_isPicture).cls ≠ "java/lang/invoke/MethodHandle" ∧ (yX12_isPicture).cls ≠ "java/lang/invoke/VarHandle") ∧ (parseMethodDescriptor (yX12_isPicture).desc).map (fun d => d.parameters.length) = some 1 ∧ (mX12_isPicture).2.2.1 ≤ 100 := ⟨wd_1594, wd_126, by decide +kernel, by decide +kernel, by decide⟩
theorem ck_X12_added : Cond.code yX12_added (mX12_added).2.1 (mX12_added).2.2.1 (mX12_added).2.2.2.1 ∈ tw_l ∧ Cond.initialized (yX12_added).cls ∈ tw_l ∧ ((yX12_added).cls ≠ "java/lang/invoke/MethodHandle" ∧ (yX12_added).cls ≠ "java/lang/invoke/VarHandle") ∧ (parseMethodDescriptor (yX12_added).desc).map (fun d => d.parameters.length) = some 1 ∧ (mX12_added).2.2.1 ≤ 100 := ⟨wd_1793, wd_126, by decide +kernel, by decide +kernel, by decide⟩
theorem ck_X12_replaced : Cond.code yX12_replaced (mX12_replaced).2.1 (mX12_replaced).2.2.1 (mX12_replaced).2.2.2.1 ∈ tw_l ∧ Cond.initialized (yX12_replaced).cls ∈ tw_l ∧ ((yX12_replaced).cls ≠ "java/lang/invoke/MethodHandle" ∧ (yX12_replaced).cls ≠ "java/lang/invoke/VarHandle") ∧ (parseMethodDescriptor (yX12_replaced).desc).map (fun d => d.parameters.length) = some 2 ∧ (mX12_replaced).2.2.1 ≤ 100 := ⟨wd_1930, wd_126, by decide +kernel, by decide +kernel, by decide⟩
theorem ck_X12_picture : Cond.code yX12_picture (mX12_picture).2.1 (mX12_picture).2.2.1 (mX12_picture).2.2.2.1 ∈ tw_l ∧ Cond.initialized (yX12_picture).cls ∈ tw_l ∧ ((yX12_picture).cls ≠ "java/lang/invoke/MethodHandle" ∧ (yX12_picture).cls ≠ "java/lang/invoke/VarHandle") ∧ (parseMethodDescriptor (yX12_picture).desc).map (fun d => d.parameters.length) = some 0 ∧ (mX12_picture).2.2.1 ≤ 100 := ⟨wd_1578, wd_126, by decide +kernel, by decide +kernel, by decide⟩
theorem ck_X12_isArc : Cond.code yX12_isArc (mX12_isArc).2.1 (mX12_isArc).2.2.1 (mX12_isArc).2.2.2.1 ∈ tw_l ∧ Cond.initialized (yX12_isArc).cls ∈ tw_l ∧ ((yX12_isArc).cls ≠ "java/lang/invoke/MethodHandle" ∧ (yX12_isArc).cls ≠ "java/lang/invoke/VarHandle") ∧ (parseMethodDescriptor (yX12_isArc).desc).map (fun d => d.parameters.length) = some 1 ∧ (mX12_isArc).2.2.1 ≤ 100 := ⟨wd_1600, wd_126, by decide +kernel, by decide +kernel, by decide⟩
theorem ck_X12_append : Cond.code yX12_append (mX12_append).2.1 (mX12_append).2.2.1 (mX12_append).2.2.2.1 ∈ tw_l ∧ Cond.initialized (yX12_append).cls ∈ tw_l ∧ ((yX12_append).cls ≠ "java/lang/invoke/MethodHandle" ∧ (yX12_append).cls ≠ "java/lang/invoke/VarHandle") ∧ (parseMethodDescriptor (yX12_append).desc).map (fun d => d.parameters.length) = some 5 ∧ (mX12_append).2.2.1 ≤ 100 := ⟨wd_1606, wd_126, by decide +kernel, by decide +kernel, by decide⟩
theorem ck_X12_crossing : Cond.code yX12_crossing (mX12_crossing).2.1 (mX12_crossing).2.2.1 (mX12_crossing).2.2.2.1 ∈ tw_l ∧ Cond.initialized (yX12_crossing).cls ∈ tw_l ∧ ((yX12_crossing).cls ≠ "java/lang/invoke/MethodHandle" ∧ (yX12_crossing).cls ≠ "java/lang/invoke/VarHandle") ∧ (parseMethodDescriptor (yX12_crossing).desc).map (fun d => d.parameters.length) = some 5 ∧ (mX12_crossing).2.2.1 ≤ 100 := ⟨wd_1590, wd_126, by decide +kernel, by decide +kernel, by decide⟩
theorem ck_X12_row : Cond.code yX12_row (mX12_row).2.1 (mX12_row).2.2.1 (mX12_row).2.2.2.1 ∈ tw_l ∧ Cond.initialized (yX12_row).cls ∈ tw_l ∧ ((yX12_row).cls ≠ "java/lang/invoke/MethodHandle" ∧ (yX12_row).cls ≠ "java/lang/invoke/VarHandle") ∧ (parseMethodDescriptor (yX12_row).desc).map (fun d => d.parameters.length) = some 3 ∧ (mX12_row).2.2.1 ≤ 100 := ⟨wd_1610, wd_126, by decide +kernel, by decide +kernel, by decide⟩
theorem ck_X12_lacks : Cond.code yX12_lacks (mX12_lacks).2.1 (mX12_lacks).2.2.1 (mX12_lacks).2.2.2.1 ∈ tw_l ∧ Cond.initialized (yX12_lacks).cls ∈ tw_l ∧ ((yX12_lacks).cls ≠ "java/lang/invoke/MethodHandle" ∧ (yX12_lacks).cls ≠ "java/lang/invoke/VarHandle") ∧ (parseMethodDescriptor (yX12_lacks).desc).map (fun d => d.parameters.length) = some 3 ∧ (mX12_lacks).2.2.1 ≤ 100 := ⟨wd_1623, wd_126, by decide +kernel, by decide +kernel, by decide⟩
theorem ck_X12_end : Cond.code yX12_end (mX12_end).2.1 (mX12_end).2.2.1 (mX12_end).2.2.2.1 ∈ tw_l ∧ Cond.initialized (yX12_end).cls ∈ tw_l ∧ ((yX12_end).cls ≠ "java/lang/invoke/MethodHandle" ∧ (yX12_end).cls ≠ "java/lang/invoke/VarHandle") ∧ (parseMethodDescriptor (yX12_end).desc).map (fun d => d.parameters.length) = some 3 ∧ (mX12_end).2.2.1 ≤ 100 := ⟨wd_1619, wd_126, by decide +kernel, by decide +kernel, by decide⟩
theorem ck_X12_put : Cond.code yX12_put (mX12_put).2.1 (mX12_put).2.2.1 (mX12_put).2.2.2.1 ∈ tw_l ∧ Cond.initialized (yX12_put).cls ∈ tw_l ∧ ((yX12_put).cls ≠ "java/lang/invoke/MethodHandle" ∧ (yX12_put).cls ≠ "java/lang/invoke/VarHandle") ∧ (parseMethodDescriptor (yX12_put).desc).map (fun d => d.parameters.length) = some 4 ∧ (mX12_put).2.2.1 ≤ 100 := ⟨wd_1627, wd_126, by decide +kernel, by decide +kernel, by decide⟩
theorem ck_X12_copy : Cond.code yX12_copy (mX12_copy).2.1 (mX12_copy).2.2.1 (mX12_copy).2.2.2.1 ∈ tw_l ∧ Cond.initialized (yX12_copy).cls ∈ tw_l ∧ ((yX12_copy).cls ≠ "java/lang/invoke/MethodHandle" ∧ (yX12_copy).cls ≠ "java/lang/invoke/VarHandle") ∧ (parseMethodDescriptor (yX12_copy).desc).map (fun d => d.parameters.length) = some 7 ∧ (mX12_copy).2.2.1 ≤ 100 := ⟨wd_1631, wd_126, by decide +kernel, by decide +kernel, by decide⟩
theorem ck_X12_loose : Cond.code yX12_loose (mX12_loose).2.1 (mX12_loose).2.2.1 (mX12_loose).2.2.2.1 ∈ tw_l ∧ Cond.initialized (yX12_loose).cls ∈ tw_l ∧ ((yX12_loose).cls ≠ "java/lang/invoke/MethodHandle" ∧ (yX12_loose).cls ≠ "java/lang/invoke/VarHandle") ∧ (parseMethodDescriptor (yX12_loose).desc).map (fun d => d.parameters.length) = some 2 ∧ (mX12_loose).2.2.1 ≤ 100 := ⟨wd_1635, wd_126, by decide +kernel, by decide +kernel, by decide⟩
theorem ck_X12_link : Cond.code yX12_link (mX12_link).2.1 (mX12_link).2.2.1 (mX12_link).2.2.2.1 ∈ tw_l ∧ Cond.initialized (yX12_link).cls ∈ tw_l ∧ ((yX12_link).cls ≠ "java/lang/invoke/MethodHandle" ∧ (yX12_link).cls ≠ "java/lang/invoke/VarHandle") ∧ (parseMethodDescriptor (yX12_link).desc).map (fun d => d.parameters.length) = some 1 ∧ (mX12_link).2.2.1 ≤ 100 := ⟨wd_1648, wd_126, by decide +kernel, by decide +kernel, by decide⟩
theorem ck_X12_turned : Cond.code yX12_turned (mX12_turned).2.1 (mX12_turned).2.2.1 (mX12_turned).2.2.2.1 ∈ tw_l ∧ Cond.initialized (yX12_turned).cls ∈ tw_l ∧ ((yX12_turned).cls ≠ "java/lang/invoke/MethodHandle" ∧ (yX12_turned).cls ≠ "java/lang/invoke/VarHandle") ∧ (parseMethodDescriptor (yX12_turned).desc).map (fun d => d.parameters.length) = some 2 ∧ (mX12_turned).2.2.1 ≤ 100 := ⟨wd_1659, wd_126, by decide +kernel, by decide +kernel, by decide⟩
theorem ck_X12_nextOfFace : Cond.code yX12_nextOfFace (mX12_nextOfFace).2.1 (mX12_nextOfFace).2.2.1 (mX12_nextOfFace).2.2.2.1 ∈ tw_l ∧ Cond.initialized (yX12_nextOfFace).cls ∈ tw_l ∧ ((yX12_nextOfFace).cls ≠ "java/lang/invoke/MethodHandle" ∧ (yX12_nextOfFace).cls ≠ "java/lang/invoke/VarHandle") ∧ (parseMethodDescriptor (yX12_nextOfFace).desc).map (fun d => d.parameters.length) = some 1 ∧ (mX12_nextOfFace).2.2.1 ≤ 100 := ⟨wd_1656, wd_126, by decide +kernel, by decide +kernel, by decide⟩
theorem ck_X12_facesOf : Cond.code yX12_facesOf (mX12_facesOf).2.1 (mX12_facesOf).2.2.1 (mX12_facesOf).2.2.2.1 ∈ tw_l ∧ Cond.initialized (yX12_facesOf).cls ∈ tw_l ∧ ((yX12_facesOf).cls ≠ "java/lang/invoke/MethodHandle" ∧ (yX12_facesOf).cls ≠ "java/lang/invoke/VarHandle") ∧ (parseMethodDescriptor (yX12_facesOf).desc).map (fun d => d.parameters.length) = some 1 ∧ (mX12_facesOf).2.2.1 ≤ 100 := ⟨wd_1652, wd_126, by decide +kernel, by decide +kernel, by decide⟩
theorem ck_X12_partsOf : Cond.code yX12_partsOf (mX12_partsOf).2.1 (mX12_partsOf).2.2.1 (mX12_partsOf).2.2.2.1 ∈ tw_l ∧ Cond.initialized (yX12_partsOf).cls ∈ tw_l ∧ ((yX12_partsOf).cls ≠ "java/lang/invoke/MethodHandle" ∧ (yX12_partsOf).cls ≠ "java/lang/invoke/VarHandle") ∧ (parseMethodDescriptor (yX12_partsOf).desc).map (fun d => d.parameters.length) = some 1 ∧ (mX12_partsOf).2.2.1 ≤ 100 := ⟨wd_1663, wd_126, by decide +kernel, by decide +kernel, by decide⟩
theorem ck_X12_openOf : Cond.code yX12_openOf (mX12_openOf).2.1 (mX12_openOf).2.2.1 (mX12_openOf).2.2.2.1 ∈ tw_l ∧ Cond.initialized (yX12_openOf).cls ∈ tw_l ∧ ((yX12_openOf).cls ≠ "java/lang/invoke/MethodHandle" ∧ (yX12_openOf).cls ≠ "java/lang/invoke/VarHandle") ∧ (parseMethodDescriptor (yX12_openOf).desc).map (fun d => d.parameters.length) = some 1 ∧ (mX12_openOf).2.2.1 ≤ 100 := ⟨wd_1644, wd_126, by decide +kernel, by decide +kernel, by decide⟩
theorem ck_X12_open : Cond.code yX12_open (mX12_open).2.1 (mX12_open).2.2.1 (mX12_open).2.2.2.1 ∈ tw_l ∧ Cond.initialized (yX12_open).cls ∈ tw_l ∧ ((yX12_open).cls ≠ "java/lang/invoke/MethodHandle" ∧ (yX12_open).cls ≠ "java/lang/invoke/VarHandle") ∧ (parseMethodDescriptor (yX12_open).desc).map (fun d => d.parameters.length) = some 1 ∧ (mX12_open).2.2.1 ≤ 100 := ⟨wd_1640, wd_126, by decide +kernel, by decide +kernel, by decide⟩
theorem ck_X12_where : Cond.code yX12_where (mX12_where).2.1 (mX12_where).2.2.1 (mX12_where).2.2.2.1 ∈ tw_l ∧ Cond.initialized (yX12_where).cls ∈ tw_l ∧ ((yX12_where).cls ≠ "java/lang/invoke/MethodHandle" ∧ (yX12_where).cls ≠ "java/lang/invoke/VarHandle") ∧ (parseMethodDescriptor (yX12_where).desc).map (fun d => d.parameters.length) = some 0 ∧ (mX12_where).2.2.1 ≤ 100 := ⟨wd_1667, wd_126, by decide +kernel, by decide +kernel, by decide⟩
theorem ck_X12_refusal : Cond.code yX12_refusal (mX12_refusal).2.1 (mX12_refusal).2.2.1 (mX12_refusal).2.2.2.1 ∈ tw_l ∧ Cond.initialized (yX12_refusal).cls ∈ tw_l ∧ ((yX12_refusal).cls ≠ "java/lang/invoke/MethodHandle" ∧ (yX12_refusal).cls ≠ "java/lang/invoke/VarHandle") ∧ (parseMethodDescriptor (yX12_refusal).desc).map (fun d => d.parameters.length) = some 1 ∧ (mX12_refusal).2.2.1 ≤ 100 := ⟨wd_1676, wd_126, by decide +kernel, by decide +kernel, by decide⟩
theorem ck_X12_piecesOf : Cond.code yX12_piecesOf (mX12_piecesOf).2.1 (mX12_piecesOf).2.2.1 (mX12_piecesOf).2.2.2.1 ∈ tw_l ∧ Cond.initialized (yX12_piecesOf).cls ∈ tw_l ∧ ((yX12_piecesOf).cls ≠ "java/lang/invoke/MethodHandle" ∧ (yX12_piecesOf).cls ≠ "java/lang/invoke/VarHandle") ∧ (parseMethodDescriptor (yX12_piecesOf).desc).map (fun d => d.parameters.length) = some 1 ∧ (mX12_piecesOf).2.2.1 ≤ 100 := ⟨wd_1680, wd_126, by decide +kernel, by decide +kernel, by decide⟩
theorem ck_X12_signAt : Cond.code yX12_signAt (mX12_signAt).2.1 (mX12_signAt).2.2.1 (mX12_signAt).2.2.2.1 ∈ tw_l ∧ Cond.initialized (yX12_signAt).cls ∈ tw_l ∧ ((yX12_signAt).cls ≠ "java/lang/invoke/MethodHandle" ∧ (yX12_signAt).cls ≠ "java/lang/invoke/VarHandle") ∧ (parseMethodDescriptor (yX12_signAt).desc).map (fun d => d.parameters.length) = some 1 ∧ (mX12_signAt).2.2.1 ≤ 100 := ⟨wd_1688, wd_126, by decide +kernel, by decide +kernel, by decide⟩
theorem ck_X12_writheOf : Cond.code yX12_writheOf (mX12_writheOf).2.1 (mX12_writheOf).2.2.1 (mX12_writheOf).2.2.2.1 ∈ tw_l ∧ Cond.initialized (yX12_writheOf).cls ∈ tw_l ∧ ((yX12_writheOf).cls ≠ "java/lang/invoke/MethodHandle" ∧ (yX12_writheOf).cls ≠ "java/lang/invoke/VarHandle") ∧ (parseMethodDescriptor (yX12_writheOf).desc).map (fun d => d.parameters.length) = some 1 ∧ (mX12_writheOf).2.2.1 ≤ 100 := ⟨wd_1684, wd_126, by decide +kernel, by decide +kernel, by decide⟩
theorem ck_X12_told : Cond.code yX12_told (mX12_told).2.1 (mX12_told).2.2.1 (mX12_told).2.2.2.1 ∈ tw_l ∧ Cond.initialized (yX12_told).cls ∈ tw_l ∧ ((yX12_told).cls ≠ "java/lang/invoke/MethodHandle" ∧ (yX12_told).cls ≠ "java/lang/invoke/VarHandle") ∧ (parseMethodDescriptor (yX12_told).desc).map (fun d => d.parameters.length) = some 2 ∧ (mX12_told).2.2.1 ≤ 100 := ⟨wd_1671, wd_126, by decide +kernel, by decide +kernel, by decide⟩
theorem ck_X12_sign : Cond.code yX12_sign (mX12_sign).2.1 (mX12_sign).2.2.1 (mX12_sign).2.2.2.1 ∈ tw_l ∧ Cond.initialized (yX12_sign).cls ∈ tw_l ∧ ((yX12_sign).cls ≠ "java/lang/invoke/MethodHandle" ∧ (yX12_sign).cls ≠ "java/lang/invoke/VarHandle") ∧ (parseMethodDescriptor (yX12_sign).desc).map (fun d => d.parameters.length) = some 2 ∧ (mX12_sign).2.2.1 ≤ 100 := ⟨wd_1692, wd_126, by decide +kernel, by decide +kernel, by decide⟩
theorem ck_X12_pieceOf : Cond.code yX12_pieceOf (mX12_pieceOf).2.1 (mX12_pieceOf).2.2.1 (mX12_pieceOf).2.2.2.1 ∈ tw_l ∧ Cond.initialized (yX12_pieceOf).cls ∈ tw_l ∧ ((yX12_pieceOf).cls ≠ "java/lang/invoke/MethodHandle" ∧ (yX12_pieceOf).cls ≠ "java/lang/invoke/VarHandle") ∧ (parseMethodDescriptor (yX12_pieceOf).desc).map (fun d => d.parameters.length) = some 2 ∧ (mX12_pieceOf).2.2.1 ≤ 100 := ⟨wd_1696, wd_126, by decide +kernel, by decide +kernel, by decide⟩
theorem ck_X12_linking : Cond.code yX12_linking (mX12_linking).2.1 (mX12_linking).2.2.1 (mX12_linking).2.2.2.1 ∈ tw_l ∧ Cond.initialized (yX12_linking).cls ∈ tw_l ∧ ((yX12_linking).cls ≠ "java/lang/invoke/MethodHandle" ∧ (yX12_linking).cls ≠ "java/lang/invoke/VarHandle") ∧ (parseMethodDescriptor (yX12_linking).desc).map (fun d => d.parameters.length) = some 3 ∧ (mX12_linking).2.2.1 ≤ 100 := ⟨wd_1700, wd_126, by decide +kernel, by decide +kernel, by decide⟩
theorem ck_X12_coloursOf : Cond.code yX12_coloursOf (mX12_coloursOf).2.1 (mX12_coloursOf).2.2.1 (mX12_coloursOf).2.2.2.1 ∈ tw_l ∧ Cond.initialized (yX12_coloursOf).cls ∈ tw_l ∧ ((yX12_coloursOf).cls ≠ "java/lang/invoke/MethodHandle" ∧ (yX12_coloursOf).cls ≠ "java/lang/invoke/VarHandle") ∧ (parseMethodDescriptor (yX12_coloursOf).desc).map (fun d => d.parameters.length) = some 2 ∧ (mX12_coloursOf).2.2.1 ≤ 100 := ⟨wd_1708, wd_126, by decide +kernel, by decide +kernel, by decide⟩
theorem ck_X12_clears : Cond.code yX12_clears (mX12_clears).2.1 (mX12_clears).2.2.1 (mX12_clears).2.2.2.1 ∈ tw_l ∧ Cond.initialized (yX12_clears).cls ∈ tw_l ∧ ((yX12_clears).cls ≠ "java/lang/invoke/MethodHandle" ∧ (yX12_clears).cls ≠ "java/lang/invoke/VarHandle") ∧ (parseMethodDescriptor (yX12_clears).desc).map (fun d => d.parameters.length) = some 6 ∧ (mX12_clears).2.2.1 ≤ 100 := ⟨wd_1711, wd_126, by decide +kernel, by decide +kernel, by decide⟩
theorem ck_X12_colours : Cond.code yX12_colours (mX12_colours).2.1 (mX12_colours).2.2.1 (mX12_colours).2.2.2.1 ∈ tw_l ∧ Cond.initialized (yX12_colours).cls ∈ tw_l ∧ ((yX12_colours).cls ≠ "java/lang/invoke/MethodHandle" ∧ (yX12_colours).cls ≠ "java/lang/invoke/VarHandle") ∧ (parseMethodDescriptor (yX12_colours).desc).map (fun d => d.parameters.length) = some 2 ∧ (mX12_colours).2.2.1 ≤ 100 := ⟨wd_1704, wd_126, by decide +kernel, by decide +kernel, by decide⟩
theorem ck_X12_circlesOf : Cond.code yX12_circlesOf (mX12_circlesOf).2.1 (mX12_circlesOf).2.2.1 (mX12_circlesOf).2.2.2.1 ∈ tw_l ∧ Cond.initialized (yX12_circlesOf).cls ∈ tw_l ∧ ((yX12_circlesOf).cls ≠ "java/lang/invoke/MethodHandle" ∧ (yX12_circlesOf).cls ≠ "java/lang/invoke/VarHandle") ∧ (parseMethodDescriptor (yX12_circlesOf).desc).map (fun d => d.parameters.length) = some 2 ∧ (mX12_circlesOf).2.2.1 ≤ 100 := ⟨wd_1728, wd_126, by decide +kernel, by decide +kernel, by decide⟩
theorem ck_X12_bracketOf : Cond.code yX12_bracketOf (mX12_bracketOf).2.1 (mX12_bracketOf).2.2.1 (mX12_bracketOf).2.2.2.1 ∈ tw_l ∧ Cond.initialized (yX12_bracketOf).cls ∈ tw_l ∧ ((yX12_bracketOf).cls ≠ "java/lang/invoke/MethodHandle" ∧ (yX12_bracketOf).cls ≠ "java/lang/invoke/VarHandle") ∧ (parseMethodDescriptor (yX12_bracketOf).desc).map (fun d => d.parameters.length) = some 1 ∧ (mX12_bracketOf).2.2.1 ≤ 100 := ⟨wd_1724, wd_126, by decide +kernel, by decide +kernel, by decide⟩
theorem ck_X12_timesCircle : Cond.code yX12_timesCircle (mX12_timesCircle).2.1 (mX12_timesCircle).2.2.1 (mX12_timesCircle).2.2.2.1 ∈ tw_l ∧ Cond.initialized (yX12_timesCircle).cls ∈ tw_l ∧ ((yX12_timesCircle).cls ≠ "java/lang/invoke/MethodHandle" ∧ (yX12_timesCircle).cls ≠ "java/lang/invoke/VarHandle") ∧ (parseMethodDescriptor (yX12_timesCircle).desc).map (fun d => d.parameters.length) = some 0 ∧ (mX12_timesCircle).2.2.1 ≤ 100 := ⟨wd_1732, wd_126, by decide +kernel, by decide +kernel, by decide⟩
theorem ck_X12_polynomialOf : Cond.code yX12_polynomialOf (mX12_polynomialOf).2.1 (mX12_polynomialOf).2.2.1 (mX12_polynomialOf).2.2.2.1 ∈ tw_l ∧ Cond.initialized (yX12_polynomialOf).cls ∈ tw_l ∧ ((yX12_polynomialOf).cls ≠ "java/lang/invoke/MethodHandle" ∧ (yX12_polynomialOf).cls ≠ "java/lang/invoke/VarHandle") ∧ (parseMethodDescriptor (yX12_polynomialOf).desc).map (fun d => d.parameters.length) = some 1 ∧ (mX12_polynomialOf).2.2.1 ≤ 100 := ⟨wd_1744, wd_126, by decide +kernel, by decide +kernel, by decide⟩
theorem ck_X12_spends : Cond.code yX12_spends (mX12_spends).2.1 (mX12_spends).2.2.1 (mX12_spends).2.2.2.1 ∈ tw_l ∧ Cond.initialized (yX12_spends).cls ∈ tw_l ∧ ((yX12_spends).cls ≠ "java/lang/invoke/MethodHandle" ∧ (yX12_spends).cls ≠ "java/lang/invoke/VarHandle") ∧ (parseMethodDescriptor (yX12_spends).desc).map (fun d => d.parameters.length) = some 2 ∧ (mX12_spends).2.2.1 ≤ 100 := ⟨wd_1719, wd_126, by decide +kernel, by decide +kernel, by decide⟩
theorem ck_X12_shown : Cond.code yX12_shown (mX12_shown).2.1 (mX12_shown).2.2.1 (mX12_shown).2.2.2.1 ∈ tw_l ∧ Cond.initialized (yX12_shown).cls ∈ tw_l ∧ ((yX12_shown).cls ≠ "java/lang/invoke/MethodHandle" ∧ (yX12_shown).cls ≠ "java/lang/invoke/VarHandle") ∧ (parseMethodDescriptor (yX12_shown).desc).map (fun d => d.parameters.length) = some 0 ∧ (mX12_shown).2.2.1 ≤ 100 := ⟨wd_1736, wd_126, by decide +kernel, by decide +kernel, by decide⟩
theorem ck_X12_bracket : Cond.code yX12_bracket (mX12_bracket).2.1 (mX12_bracket).2.2.1 (mX12_bracket).2.2.2.1 ∈ tw_l ∧ Cond.initialized (yX12_bracket).cls ∈ tw_l ∧ ((yX12_bracket).cls ≠ "java/lang/invoke/MethodHandle" ∧ (yX12_bracket).cls ≠ "java/lang/invoke/VarHandle") ∧ (parseMethodDescriptor (yX12_bracket).desc).map (fun d => d.parameters.length) = some 1 ∧ (mX12_bracket).2.2.1 ≤ 100 := ⟨wd_1715, wd_126, by decide +kernel, by decide +kernel, by decide⟩
theorem ck_X12_polynomial : Cond.code yX12_polynomial (mX12_polynomial).2.1 (mX12_polynomial).2.2.1 (mX12_polynomial).2.2.2.1 ∈ tw_l ∧ Cond.initialized (yX12_polynomial).cls ∈ tw_l ∧ ((yX12_polynomial).cls ≠ "java/lang/invoke/MethodHandle" ∧ (yX12_polynomial).cls ≠ "java/lang/invoke/VarHandle") ∧ (parseMethodDescriptor (yX12_polynomial).desc).map (fun d => d.parameters.length) = some 1 ∧ (mX12_polynomial).2.2.1 ≤ 100 := ⟨wd_1740, wd_126, by decide +kernel, by decide +kernel, by decide⟩
theorem ck_X12_at : Cond.code yX12_at (mX12_at).2.1 (mX12_at).2.2.1 (mX12_at).2.2.2.1 ∈ tw_l ∧ Cond.initialized (yX12_at).cls ∈ tw_l ∧ ((yX12_at).cls ≠ "java/lang/invoke/MethodHandle" ∧ (yX12_at).cls ≠ "java/lang/invoke/VarHandle") ∧ (parseMethodDescriptor (yX12_at).desc).map (fun d => d.parameters.length) = some 1 ∧ (mX12_at).2.2.1 ≤ 100 := ⟨wd_1748, wd_126, by decide +kernel, by decide +kernel, by decide⟩
theorem ck_X12_power : Cond.code yX12_power (mX12_power).2.1 (mX12_power).2.2.1 (mX12_power).2.2.2.1 ∈ tw_l ∧ Cond.initialized (yX12_power).cls ∈ tw_l ∧ ((yX12_power).cls ≠ "java/lang/invoke/MethodHandle" ∧ (yX12_power).cls ≠ "java/lang/invoke/VarHandle") ∧ (parseMethodDescriptor (yX12_power).desc).map (fun d => d.parameters.length) = some 1 ∧ (mX12_power).2.2.1 ≤ 100 := ⟨wd_1754, wd_126, by decide +kernel, by decide +kernel, by decide⟩
theorem ck_X12_determinant : Cond.code yX12_determinant (mX12_determinant).2.1 (mX12_determinant).2.2.1 (mX12_determinant).2.2.2.1 ∈ tw_l ∧ Cond.initialized (yX12_determinant).cls ∈ tw_l ∧ ((yX12_determinant).cls ≠ "java/lang/invoke/MethodHandle" ∧ (yX12_determinant).cls ≠ "java/lang/invoke/VarHandle") ∧ (parseMethodDescriptor (yX12_determinant).desc).map (fun d => d.parameters.length) = some 1 ∧ (mX12_determinant).2.2.1 ≤ 100 := ⟨wd_1758, wd_126, by decide +kernel, by decide +kernel, by decide⟩
theorem ck_X12_gauss : Cond.code yX12_gauss (mX12_gauss).2.1 (mX12_gauss).2.2.1 (mX12_gauss).2.2.2.1 ∈ tw_l ∧ Cond.initialized (yX12_gauss).cls ∈ tw_l ∧ ((yX12_gauss).cls ≠ "java/lang/invoke/MethodHandle" ∧ (yX12_gauss).cls ≠ "java/lang/invoke/VarHandle") ∧ (parseMethodDescriptor (yX12_gauss).desc).map (fun d => d.parameters.length) = some 1 ∧ (mX12_gauss).2.2.1 ≤ 100 := ⟨wd_1762, wd_126, by decide +kernel, by decide +kernel, by decide⟩
theorem ck_X12_type : Cond.code yX12_type (mX12_type).2.1 (mX12_type).2.2.1 (mX12_type).2.2.2.1 ∈ tw_l ∧ Cond.initialized (yX12_type).cls ∈ tw_l ∧ ((yX12_type).cls ≠ "java/lang/invoke/MethodHandle" ∧ (yX12_type).cls ≠ "java/lang/invoke/VarHandle") ∧ (parseMethodDescriptor (yX12_type).desc).map (fun d => d.parameters.length) = some 1 ∧ (mX12_type).2.2.1 ≤ 100 := ⟨wd_1766, wd_126, by decide +kernel, by decide +kernel, by decide⟩
theorem ck_X12_clear : Cond.code yX12_clear (mX12_clear).2.1 (mX12_clear).2.2.1 (mX12_clear).2.2.2.1 ∈ tw_l ∧ Cond.initialized (yX12_clear).cls ∈ tw_l ∧ ((yX12_clear).cls ≠ "java/lang/invoke/MethodHandle" ∧ (yX12_clear).cls ≠ "java/lang/invoke/VarHandle") ∧ (parseMethodDescriptor (yX12_clear).desc).map (fun d => d.parameters.length) = some 0 ∧ (mX12_clear).2.2.1 ≤ 100 := ⟨wd_1770, wd_126, by decide +kernel, by decide +kernel, by decide⟩
theorem ck_X12_item : Cond.code yX12_item (mX12_item).2.1 (mX12_item).2.2.1 (mX12_item).2.2.2.1 ∈ tw_l ∧ Cond.initialized (yX12_item).cls ∈ tw_l ∧ ((yX12_item).cls ≠ "java/lang/invoke/MethodHandle" ∧ (yX12_item).cls ≠ "java/lang/invoke/VarHandle") ∧ (parseMethodDescriptor (yX12_item).desc).map (fun d => d.parameters.length) = some 1 ∧ (mX12_item).2.2.1 ≤ 100 := ⟨wd_1774, wd_126, by decide +kernel, by decide +kernel, by decide⟩
theorem ck_X12_passes : Cond.code yX12_passes (mX12_passes).2.1 (mX12_passes).2.2.1 (mX12_passes).2.2.2.1 ∈ tw_l ∧ Cond.initialized (yX12_passes).cls ∈ tw_l ∧ ((yX12_passes).cls ≠ "java/lang/invoke/MethodHandle" ∧ (yX12_passes).cls ≠ "java/lang/invoke/VarHandle") ∧ (parseMethodDescriptor (yX12_passes).desc).map (fun d => d.parameters.length) = some 0 ∧ (mX12_passes).2.2.1 ≤ 100 := ⟨wd_1786, wd_126, by decide +kernel, by decide +kernel, by decide⟩
theorem ck_X12_readsGauss : Cond.code yX12_readsGauss (mX12_readsGauss).2.1 (mX12_readsGauss).2.2.1 (mX12_readsGauss).2.2.2.1 ∈ tw_l ∧ Cond.initialized (yX12_readsGauss).cls ∈ tw_l ∧ ((yX12_readsGauss).cls ≠ "java/lang/invoke/MethodHandle" ∧ (yX12_readsGauss).cls ≠ "java/lang/invoke/VarHandle") ∧ (parseMethodDescriptor (yX12_readsGauss).desc).map (fun d => d.parameters.length) = some 0 ∧ (mX12_readsGauss).2.2.1 ≤ 100 := ⟨wd_1782, wd_126, by decide +kernel, by decide +kernel, by decide⟩
theorem ck_X12_ofGauss : Cond.code yX12_ofGauss (mX12_ofGauss).2.1 (mX12_ofGauss).2.2.1 (mX12_ofGauss).2.2.2.1 ∈ tw_l ∧ Cond.initialized (yX12_ofGauss).cls ∈ tw_l ∧ ((yX12_ofGauss).cls ≠ "java/lang/invoke/MethodHandle" ∧ (yX12_ofGauss).cls ≠ "java/lang/invoke/VarHandle") ∧ (parseMethodDescriptor (yX12_ofGauss).desc).map (fun d => d.parameters.length) = some 0 ∧ (mX12_ofGauss).2.2.1 ≤ 100 := ⟨wd_1778, wd_126, by decide +kernel, by decide +kernel, by decide⟩
theorem ck_X12_free : Cond.code yX12_free (mX12_free).2.1 (mX12_free).2.2.1 (mX12_free).2.2.2.1 ∈ tw_l ∧ Cond.initialized (yX12_free).cls ∈ tw_l ∧ ((yX12_free).cls ≠ "java/lang/invoke/MethodHandle" ∧ (yX12_free).cls ≠ "java/lang/invoke/VarHandle") ∧ (parseMethodDescriptor (yX12_free).desc).map (fun d => d.parameters.length) = some 2 ∧ (mX12_free).2.2.1 ≤ 100 := ⟨wd_1910, wd_126, by decide +kernel, by decide +kernel, by decide⟩
theorem ck_X12_joinArcs : Cond.code yX12_joinArcs (mX12_joinArcs).2.1 (mX12_joinArcs).2.2.1 (mX12_joinArcs).2.2.2.1 ∈ tw_l ∧ Cond.initialized (yX12_joinArcs).cls ∈ tw_l ∧ ((yX12_joinArcs).cls ≠ "java/lang/invoke/MethodHandle" ∧ (yX12_joinArcs).cls ≠ "java/lang/invoke/VarHandle") ∧ (parseMethodDescriptor (yX12_joinArcs).desc).map (fun d => d.parameters.length) = some 3 ∧ (mX12_joinArcs).2.2.1 ≤ 100 := ⟨wd_1854, wd_126, by decide +kernel, by decide +kernel, by decide⟩
theorem ck_X12_takeOut : Cond.code yX12_takeOut (mX12_takeOut).2.1 (mX12_takeOut).2.2.1 (mX12_takeOut).2.2.2.1 ∈ tw_l ∧ Cond.initialized (yX12_takeOut).cls ∈ tw_l ∧ ((yX12_takeOut).cls ≠ "java/lang/invoke/MethodHandle" ∧ (yX12_takeOut).cls ≠ "java/lang/invoke/VarHandle") ∧ (parseMethodDescriptor (yX12_takeOut).desc).map (fun d => d.parameters.length) = some 2 ∧ (mX12_takeOut).2.2.1 ≤ 100 := ⟨wd_1858, wd_126, by decide +kernel, by decide +kernel, by decide⟩
theorem ck_X12_isEnd : Cond.code yX12_isEnd (mX12_isEnd).2.1 (mX12_isEnd).2.2.1 (mX12_isEnd).2.2.2.1 ∈ tw_l ∧ Cond.initialized (yX12_isEnd).cls ∈ tw_l ∧ ((yX12_isEnd).cls ≠ "java/lang/invoke/MethodHandle" ∧ (yX12_isEnd).cls ≠ "java/lang/invoke/VarHandle") ∧ (parseMethodDescriptor (yX12_isEnd).desc).map (fun d => d.parameters.length) = some 2 ∧ (mX12_isEnd).2.2.1 ≤ 100 := ⟨wd_1845, wd_126, by decide +kernel, by decide +kernel, by decide⟩
theorem ck_X12_arcAt : Cond.code yX12_arcAt (mX12_arcAt).2.1 (mX12_arcAt).2.2.1 (mX12_arcAt).2.2.2.1 ∈ tw_l ∧ Cond.initialized (yX12_arcAt).cls ∈ tw_l ∧ ((yX12_arcAt).cls ≠ "java/lang/invoke/MethodHandle" ∧ (yX12_arcAt).cls ≠ "java/lang/invoke/VarHandle") ∧ (parseMethodDescriptor (yX12_arcAt).desc).map (fun d => d.parameters.length) = some 1 ∧ (mX12_arcAt).2.2.1 ≤ 100 := ⟨wd_1849, wd_126, by decide +kernel, by decide +kernel, by decide⟩
theorem ck_X12_full : Cond.code yX12_full (mX12_full).2.1 (mX12_full).2.2.1 (mX12_full).2.2.2.1 ∈ tw_l ∧ Cond.initialized (yX12_full).cls ∈ tw_l ∧ ((yX12_full).cls ≠ "java/lang/invoke/MethodHandle" ∧ (yX12_full).cls ≠ "java/lang/invoke/VarHandle") ∧ (parseMethodDescriptor (yX12_full).desc).map (fun d => d.parameters.length) = some 0 ∧ (mX12_full).2.2.1 ≤ 100 := ⟨wd_1862, wd_126, by decide +kernel, by decide +kernel, by decide⟩
theorem ck_X12_twist : Cond.code yX12_twist (mX12_twist).2.1 (mX12_twist).2.2.1 (mX12_twist).2.2.2.1 ∈ tw_l ∧ Cond.initialized (yX12_twist).cls ∈ tw_l ∧ ((yX12_twist).cls ≠ "java/lang/invoke/MethodHandle" ∧ (yX12_twist).cls ≠ "java/lang/invoke/VarHandle") ∧ (parseMethodDescriptor (yX12_twist).desc).map (fun d => d.parameters.length) = some 2 ∧ (mX12_twist).2.2.1 ≤ 100 := ⟨wd_1905, wd_126, by decide +kernel, by decide +kernel, by decide⟩
theorem ck_X12_untwist : Cond.code yX12_untwist (mX12_untwist).2.1 (mX12_untwist).2.2.1 (mX12_untwist).2.2.2.1 ∈ tw_l ∧ Cond.initialized (yX12_untwist).cls ∈ tw_l ∧ ((yX12_untwist).cls ≠ "java/lang/invoke/MethodHandle" ∧ (yX12_untwist).cls ≠ "java/lang/invoke/VarHandle") ∧ (parseMethodDescriptor (yX12_untwist).desc).map (fun d => d.parameters.length) = some 1 ∧ (mX12_untwist).2.2.1 ≤ 100 := ⟨wd_1841, wd_126, by decide +kernel, by decide +kernel, by decide⟩
theorem ck_X12_isOfFace : Cond.code yX12_isOfFace (mX12_isOfFace).2.1 (mX12_isOfFace).2.2.1 (mX12_isOfFace).2.2.2.1 ∈ tw_l ∧ Cond.initialized (yX12_isOfFace).cls ∈ tw_l ∧ ((yX12_isOfFace).cls ≠ "java/lang/invoke/MethodHandle" ∧ (yX12_isOfFace).cls ≠ "java/lang/invoke/VarHandle") ∧ (parseMethodDescriptor (yX12_isOfFace).desc).map (fun d => d.parameters.length) = some 2 ∧ (mX12_isOfFace).2.2.1 ≤ 100 := ⟨wd_1918, wd_126, by decide +kernel, by decide +kernel, by decide⟩
theorem ck_X12_poke : Cond.code yX12_poke (mX12_poke).2.1 (mX12_poke).2.2.1 (mX12_poke).2.2.2.1 ∈ tw_l ∧ Cond.initialized (yX12_poke).cls ∈ tw_l ∧ ((yX12_poke).cls ≠ "java/lang/invoke/MethodHandle" ∧ (yX12_poke).cls ≠ "java/lang/invoke/VarHandle") ∧ (parseMethodDescriptor (yX12_poke).desc).map (fun d => d.parameters.length) = some 3 ∧ (mX12_poke).2.2.1 ≤ 100 := ⟨wd_1914, wd_126, by decide +kernel, by decide +kernel, by decide⟩
theorem ck_X12_unpoke : Cond.code yX12_unpoke (mX12_unpoke).2.1 (mX12_unpoke).2.2.1 (mX12_unpoke).2.2.2.1 ∈ tw_l ∧ Cond.initialized (yX12_unpoke).cls ∈ tw_l ∧ ((yX12_unpoke).cls ≠ "java/lang/invoke/MethodHandle" ∧ (yX12_unpoke).cls ≠ "java/lang/invoke/VarHandle") ∧ (parseMethodDescriptor (yX12_unpoke).desc).map (fun d => d.parameters.length) = some 1 ∧ (mX12_unpoke).2.2.1 ≤ 100 := ⟨wd_1866, wd_126, by decide +kernel, by decide +kernel, by decide⟩
theorem ck_X12_slide : Cond.code yX12_slide (mX12_slide).2.1 (mX12_slide).2.2.1 (mX12_slide).2.2.2.1 ∈ tw_l ∧ Cond.initialized (yX12_slide).cls ∈ tw_l ∧ ((yX12_slide).cls ≠ "java/lang/invoke/MethodHandle" ∧ (yX12_slide).cls ≠ "java/lang/invoke/VarHandle") ∧ (parseMethodDescriptor (yX12_slide).desc).map (fun d => d.parameters.length) = some 1 ∧ (mX12_slide).2.2.1 ≤ 100 := ⟨wd_1870, wd_126, by decide +kernel, by decide +kernel, by decide⟩
theorem ck_X12_goesOver : Cond.code yX12_goesOver (mX12_goesOver).2.1 (mX12_goesOver).2.2.1 (mX12_goesOver).2.2.2.1 ∈ tw_l ∧ Cond.initialized (yX12_goesOver).cls ∈ tw_l ∧ ((yX12_goesOver).cls ≠ "java/lang/invoke/MethodHandle" ∧ (yX12_goesOver).cls ≠ "java/lang/invoke/VarHandle") ∧ (parseMethodDescriptor (yX12_goesOver).desc).map (fun d => d.parameters.length) = some 1 ∧ (mX12_goesOver).2.2.1 ≤ 100 := ⟨wd_1874, wd_126, by decide +kernel, by decide +kernel, by decide⟩
theorem ck_X12_slides : Cond.code yX12_slides (mX12_slides).2.1 (mX12_slides).2.2.1 (mX12_slides).2.2.2.1 ∈ tw_l ∧ Cond.initialized (yX12_slides).cls ∈ tw_l ∧ ((yX12_slides).cls ≠ "java/lang/invoke/MethodHandle" ∧ (yX12_slides).cls ≠ "java/lang/invoke/VarHandle") ∧ (parseMethodDescriptor (yX12_slides).desc).map (fun d => d.parameters.length) = some 1 ∧ (mX12_slides).2.2.1 ≤ 100 := ⟨wd_1878, wd_126, by decide +kernel, by decide +kernel, by decide⟩
theorem ck_X12_has : Cond.code yX12_has (mX12_has).2.1 (mX12_has).2.2.1 (mX12_has).2.2.2.1 ∈ tw_l ∧ Cond.initialized (yX12_has).cls ∈ tw_l ∧ ((yX12_has).cls ≠ "java/lang/invoke/MethodHandle" ∧ (yX12_has).cls ≠ "java/lang/invoke/VarHandle") ∧ (parseMethodDescriptor (yX12_has).desc).map (fun d => d.parameters.length) = some 2 ∧ (mX12_has).2.2.1 ≤ 100 := ⟨wd_1885, wd_126, by decide +kernel, by decide +kernel, by decide⟩
theorem ck_X12_wayOut : Cond.code yX12_wayOut (mX12_wayOut).2.1 (mX12_wayOut).2.2.1 (mX12_wayOut).2.2.2.1 ∈ tw_l ∧ Cond.initialized (yX12_wayOut).cls ∈ tw_l ∧ ((yX12_wayOut).cls ≠ "java/lang/invoke/MethodHandle" ∧ (yX12_wayOut).cls ≠ "java/lang/invoke/VarHandle") ∧ (parseMethodDescriptor (yX12_wayOut).desc).map (fun d => d.parameters.length) = some 3 ∧ (mX12_wayOut).2.2.1 ≤ 100 := ⟨wd_1889, wd_126, by decide +kernel, by decide +kernel, by decide⟩
theorem ck_X12_flype : Cond.code yX12_flype (mX12_flype).2.1 (mX12_flype).2.2.1 (mX12_flype).2.2.2.1 ∈ tw_l ∧ Cond.initialized (yX12_flype).cls ∈ tw_l ∧ ((yX12_flype).cls ≠ "java/lang/invoke/MethodHandle" ∧ (yX12_flype).cls ≠ "java/lang/invoke/VarHandle") ∧ (parseMethodDescriptor (yX12_flype).desc).map (fun d => d.parameters.length) = some 2 ∧ (mX12_flype).2.2.1 ≤ 100 := ⟨wd_1882, wd_126, by decide +kernel, by decide +kernel, by decide⟩
theorem ck_X12_turnOver : Cond.code yX12_turnOver (mX12_turnOver).2.1 (mX12_turnOver).2.2.1 (mX12_turnOver).2.2.2.1 ∈ tw_l ∧ Cond.initialized (yX12_turnOver).cls ∈ tw_l ∧ ((yX12_turnOver).cls ≠ "java/lang/invoke/MethodHandle" ∧ (yX12_turnOver).cls ≠ "java/lang/invoke/VarHandle") ∧ (parseMethodDescriptor (yX12_turnOver).desc).map (fun d => d.parameters.length) = some 2 ∧ (mX12_turnOver).2.2.1 ≤ 100 := ⟨wd_1893, wd_126, by decide +kernel, by decide +kernel, by decide⟩
theorem ck_X12_smooth : Cond.code yX12_smooth (mX12_smooth).2.1 (mX12_smooth).2.2.1 (mX12_smooth).2.2.2.1 ∈ tw_l ∧ Cond.initialized (yX12_smooth).cls ∈ tw_l ∧ ((yX12_smooth).cls ≠ "java/lang/invoke/MethodHandle" ∧ (yX12_smooth).cls ≠ "java/lang/invoke/VarHandle") ∧ (parseMethodDescriptor (yX12_smooth).desc).map (fun d => d.parameters.length) = some 2 ∧ (mX12_smooth).2.2.1 ≤ 100 := ⟨wd_1922, wd_126, by decide +kernel, by decide +kernel, by decide⟩
theorem ck_X12_rotate : Cond.code yX12_rotate (mX12_rotate).2.1 (mX12_rotate).2.2.1 (mX12_rotate).2.2.2.1 ∈ tw_l ∧ Cond.initialized (yX12_rotate).cls ∈ tw_l ∧ ((yX12_rotate).cls ≠ "java/lang/invoke/MethodHandle" ∧ (yX12_rotate).cls ≠ "java/lang/invoke/VarHandle") ∧ (parseMethodDescriptor (yX12_rotate).desc).map (fun d => d.parameters.length) = some 3 ∧ (mX12_rotate).2.2.1 ≤ 100 := ⟨wd_1897, wd_126, by decide +kernel, by decide +kernel, by decide⟩
theorem ck_X12_moved : Cond.code yX12_moved (mX12_moved).2.1 (mX12_moved).2.2.1 (mX12_moved).2.2.2.1 ∈ tw_l ∧ Cond.initialized (yX12_moved).cls ∈ tw_l ∧ ((yX12_moved).cls ≠ "java/lang/invoke/MethodHandle" ∧ (yX12_moved).cls ≠ "java/lang/invoke/VarHandle") ∧ (parseMethodDescriptor (yX12_moved).desc).map (fun d => d.parameters.length) = some 4 ∧ (mX12_moved).2.2.1 ≤ 100 := ⟨wd_1901, wd_126, by decide +kernel, by decide +kernel, by decide⟩
theorem ck_X12_unmoved : Cond.code yX12_unmoved (mX12_unmoved).2.1 (mX12_unmoved).2.2.1 (mX12_unmoved).2.2.2.1 ∈ tw_l ∧ Cond.initialized (yX12_unmoved).cls ∈ tw_l ∧ ((yX12_unmoved).cls ≠ "java/lang/invoke/MethodHandle" ∧ (yX12_unmoved).cls ≠ "java/lang/invoke/VarHandle") ∧ (parseMethodDescriptor (yX12_unmoved).desc).map (fun d => d.parameters.length) = some 3 ∧ (mX12_unmoved).2.2.1 ≤ 100 := ⟨wd_1837, wd_126, by decide +kernel, by decide +kernel, by decide⟩
theorem ck_X12_move : Cond.code yX12_move (mX12_move).2.1 (mX12_move).2.2.1 (mX12_move).2.2.2.1 ∈ tw_l ∧ Cond.initialized (yX12_move).cls ∈ tw_l ∧ ((yX12_move).cls ≠ "java/lang/invoke/MethodHandle" ∧ (yX12_move).cls ≠ "java/lang/invoke/VarHandle") ∧ (parseMethodDescriptor (yX12_move).desc).map (fun d => d.parameters.length) = some 4 ∧ (mX12_move).2.2.1 ≤ 100 := ⟨wd_1801, wd_126, by decide +kernel, by decide +kernel, by decide⟩
theorem ck_X12_isMove : Cond.code yX12_isMove (mX12_isMove).2.1 (mX12_isMove).2.2.1 (mX12_isMove).2.2.2.1 ∈ tw_l ∧ Cond.initialized (yX12_isMove).cls ∈ tw_l ∧ ((yX12_isMove).cls ≠ "java/lang/invoke/MethodHandle" ∧ (yX12_isMove).cls ≠ "java/lang/invoke/VarHandle") ∧ (parseMethodDescriptor (yX12_isMove).desc).map (fun d => d.parameters.length) = some 1 ∧ (mX12_isMove).2.2.1 ≤ 100 := ⟨wd_1809, wd_126, by decide +kernel, by decide +kernel, by decide⟩
theorem ck_X12_body : Cond.code yX12_body (mX12_body).2.1 (mX12_body).2.2.1 (mX12_body).2.2.2.1 ∈ tw_l ∧ Cond.initialized (yX12_body).cls ∈ tw_l ∧ ((yX12_body).cls ≠ "java/lang/invoke/MethodHandle" ∧ (yX12_body).cls ≠ "java/lang/invoke/VarHandle") ∧ (parseMethodDescriptor (yX12_body).desc).map (fun d => d.parameters.length) = some 1 ∧ (mX12_body).2.2.1 ≤ 100 := ⟨wd_1817, wd_126, by decide +kernel, by decide +kernel, by decide⟩
theorem ck_X12_tells : Cond.code yX12_tells (mX12_tells).2.1 (mX12_tells).2.2.1 (mX12_tells).2.2.2.1 ∈ tw_l ∧ Cond.initialized (yX12_tells).cls ∈ tw_l ∧ ((yX12_tells).cls ≠ "java/lang/invoke/MethodHandle" ∧ (yX12_tells).cls ≠ "java/lang/invoke/VarHandle") ∧ (parseMethodDescriptor (yX12_tells).desc).map (fun d => d.parameters.length) = some 2 ∧ (mX12_tells).2.2.1 ≤ 100 := ⟨wd_1805, wd_126, by decide +kernel, by decide +kernel, by decide⟩
theorem ck_X12_moreOf : Cond.code yX12_moreOf (mX12_moreOf).2.1 (mX12_moreOf).2.2.1 (mX12_moreOf).2.2.2.1 ∈ tw_l ∧ Cond.initialized (yX12_moreOf).cls ∈ tw_l ∧ ((yX12_moreOf).cls ≠ "java/lang/invoke/MethodHandle" ∧ (yX12_moreOf).cls ≠ "java/lang/invoke/VarHandle") ∧ (parseMethodDescriptor (yX12_moreOf).desc).map (fun d => d.parameters.length) = some 1 ∧ (mX12_moreOf).2.2.1 ≤ 100 := ⟨wd_1813, wd_126, by decide +kernel, by decide +kernel, by decide⟩
theorem ck_X12_trace : Cond.code yX12_trace (mX12_trace).2.1 (mX12_trace).2.2.1 (mX12_trace).2.2.2.1 ∈ tw_l ∧ Cond.initialized (yX12_trace).cls ∈ tw_l ∧ ((yX12_trace).cls ≠ "java/lang/invoke/MethodHandle" ∧ (yX12_trace).cls ≠ "java/lang/invoke/VarHandle") ∧ (parseMethodDescriptor (yX12_trace).desc).map (fun d => d.parameters.length) = some 1 ∧ (mX12_trace).2.2.1 ≤ 100 := ⟨wd_1821, wd_126, by decide +kernel, by decide +kernel, by decide⟩
theorem ck_X12_as : Cond.code yX12_as (mX12_as).2.1 (mX12_as).2.2.1 (mX12_as).2.2.2.1 ∈ tw_l ∧ Cond.initialized (yX12_as).cls ∈ tw_l ∧ ((yX12_as).cls ≠ "java/lang/invoke/MethodHandle" ∧ (yX12_as).cls ≠ "java/lang/invoke/VarHandle") ∧ (parseMethodDescriptor (yX12_as).desc).map (fun d => d.parameters.length) = some 2 ∧ (mX12_as).2.2.1 ≤ 100 := ⟨wd_1825, wd_126, by decide +kernel, by decide +kernel, by decide⟩
theorem ck_X12_tried : Cond.code yX12_tried (mX12_tried).2.1 (mX12_tried).2.2.1 (mX12_tried).2.2.2.1 ∈ tw_l ∧ Cond.initialized (yX12_tried).cls ∈ tw_l ∧ ((yX12_tried).cls ≠ "java/lang/invoke/MethodHandle" ∧ (yX12_tried).cls ≠ "java/lang/invoke/VarHandle") ∧ (parseMethodDescriptor (yX12_tried).desc).map (fun d => d.parameters.length) = some 3 ∧ (mX12_tried).2.2.1 ≤ 100 := ⟨wd_1833, wd_126, by decide +kernel, by decide +kernel, by decide⟩
theorem ck_X12_may : Cond.code yX12_may (mX12_may).2.1 (mX12_may).2.2.1 (mX12_may).2.2.2.1 ∈ tw_l ∧ Cond.initialized (yX12_may).cls ∈ tw_l ∧ ((yX12_may).cls ≠ "java/lang/invoke/MethodHandle" ∧ (yX12_may).cls ≠ "java/lang/invoke/VarHandle") ∧ (parseMethodDescriptor (yX12_may).desc).map (fun d => d.parameters.length) = some 2 ∧ (mX12_may).2.2.1 ≤ 100 := ⟨wd_1829, wd_126, by decide +kernel, by decide +kernel, by decide⟩
theorem ck_X12_does : Cond.code yX12_does (mX12_does).2.1 (mX12_does).2.2.1 (mX12_does).2.2.2.1 ∈ tw_l ∧ Cond.initialized (yX12_does).cls ∈ tw_l ∧ ((yX12_does).cls ≠ "java/lang/invoke/MethodHandle" ∧ (yX12_does).cls ≠ "java/lang/invoke/VarHandle") ∧ (parseMethodDescriptor (yX12_does).desc).map (fun d => d.parameters.length) = some 2 ∧ (mX12_does).2.2.1 ≤ 100 := ⟨wd_1926, wd_126, by decide +kernel, by decide +kernel, by decide⟩
theorem ck_X12_undoes : Cond.code yX12_undoes (mX12_undoes).2.1 (mX12_undoes).2.2.1 (mX12_undoes).2.2.2.1 ∈ tw_l ∧ Cond.initialized (yX12_undoes).cls ∈ tw_l ∧ ((yX12_undoes).cls ≠ "java/lang/invoke/MethodHandle" ∧ (yX12_undoes).cls ≠ "java/lang/invoke/VarHandle") ∧ (parseMethodDescriptor (yX12_undoes).desc).map (fun d => d.parameters.length) = some 2 ∧ (mX12_undoes).2.2.1 ≤ 100 := ⟨wd_1934, wd_126, by decide +kernel, by decide +kernel, by decide⟩
theorem ck_X12_allTurned : Cond.code yX12_allTurned (mX12_allTurned).2.1 (mX12_allTurned).2.2.1 (mX12_allTurned).2.2.2.1 ∈ tw_l ∧ Cond.initialized (yX12_allTurned).cls ∈ tw_l ∧ ((yX12_allTurned).cls ≠ "java/lang/invoke/MethodHandle" ∧ (yX12_allTurned).cls ≠ "java/lang/invoke/VarHandle") ∧ (parseMethodDescriptor (yX12_allTurned).desc).map (fun d => d.parameters.length) = some 2 ∧ (mX12_allTurned).2.2.1 ≤ 100 := ⟨wd_1942, wd_126, by decide +kernel, by decide +kernel, by decide⟩
theorem ck_X12_mirror : Cond.code yX12_mirror (mX12_mirror).2.1 (mX12_mirror).2.2.1 (mX12_mirror).2.2.2.1 ∈ tw_l ∧ Cond.initialized (yX12_mirror).cls ∈ tw_l ∧ ((yX12_mirror).cls ≠ "java/lang/invoke/MethodHandle" ∧ (yX12_mirror).cls ≠ "java/lang/invoke/VarHandle") ∧ (parseMethodDescriptor (yX12_mirror).desc).map (fun d => d.parameters.length) = some 1 ∧ (mX12_mirror).2.2.1 ≤ 100 := ⟨wd_1938, wd_126, by decide +kernel, by decide +kernel, by decide⟩
theorem ck_X12_turn : Cond.code yX12_turn (mX12_turn).2.1 (mX12_turn).2.2.1 (mX12_turn).2.2.2.1 ∈ tw_l ∧ Cond.initialized (yX12_turn).cls ∈ tw_l ∧ ((yX12_turn).cls ≠ "java/lang/invoke/MethodHandle" ∧ (yX12_turn).cls ≠ "java/lang/invoke/VarHandle") ∧ (parseMethodDescriptor (yX12_turn).desc).map (fun d => d.parameters.length) = some 1 ∧ (mX12_turn).2.2.1 ≤ 100 := ⟨wd_1946, wd_126, by decide +kernel, by decide +kernel, by decide⟩
theorem ck_X12_undo : Cond.code yX12_undo (mX12_undo).2.1 (mX12_undo).2.2.1 (mX12_undo).2.2.2.1 ∈ tw_l ∧ Cond.initialized (yX12_undo).cls ∈ tw_l ∧ ((yX12_undo).cls ≠ "java/lang/invoke/MethodHandle" ∧ (yX12_undo).cls ≠ "java/lang/invoke/VarHandle") ∧ (parseMethodDescriptor (yX12_undo).desc).map (fun d => d.parameters.length) = some 1 ∧ (mX12_undo).2.2.1 ≤ 100 := ⟨wd_1950, wd_126, by decide +kernel, by decide +kernel, by decide⟩
theorem ck_X12_twin : Cond.code yX12_twin (mX12_twin).2.1 (mX12_twin).2.2.1 (mX12_twin).2.2.2.1 ∈ tw_l ∧ Cond.initialized (yX12_twin).cls ∈ tw_l ∧ ((yX12_twin).cls ≠ "java/lang/invoke/MethodHandle" ∧ (yX12_twin).cls ≠ "java/lang/invoke/VarHandle") ∧ (parseMethodDescriptor (yX12_twin).desc).map (fun d => d.parameters.length) = some 1 ∧ (mX12_twin).2.2.1 ≤ 100 := ⟨wd_1954, wd_126, by decide +kernel, by decide +kernel, by decide⟩
theorem ck_X12_join : Cond.code yX12_join (mX12_join).2.1 (mX12_join).2.2.1 (mX12_join).2.2.2.1 ∈ tw_l ∧ Cond.initialized (yX12_join).cls ∈ tw_l ∧ ((yX12_join).cls ≠ "java/lang/invoke/MethodHandle" ∧ (yX12_join).cls ≠ "java/lang/invoke/VarHandle") ∧ (parseMethodDescriptor (yX12_join).desc).map (fun d => d.parameters.length) = some 4 ∧ (mX12_join).2.2.1 ≤ 100 := ⟨wd_1958, wd_126, by decide +kernel, by decide +kernel, by decide⟩
theorem ck_X12_fresh : Cond.code yX12_fresh (mX12_fresh).2.1 (mX12_fresh).2.2.1 (mX12_fresh).2.2.2.1 ∈ tw_l ∧ Cond.initialized (yX12_fresh).cls ∈ tw_l ∧ ((yX12_fresh).cls ≠ "java/lang/invoke/MethodHandle" ∧ (yX12_fresh).cls ≠ "java/lang/invoke/VarHandle") ∧ (parseMethodDescriptor (yX12_fresh).desc).map (fun d => d.parameters.length) = some 0 ∧ (mX12_fresh).2.2.1 ≤ 100 := ⟨wd_1962, wd_126, by decide +kernel, by decide +kernel, by decide⟩
theorem ck_X12_walk : Cond.code yX12_walk (mX12_walk).2.1 (mX12_walk).2.2.1 (mX12_walk).2.2.2.1 ∈ tw_l ∧ Cond.initialized (yX12_walk).cls ∈ tw_l ∧ ((yX12_walk).cls ≠ "java/lang/invoke/MethodHandle" ∧ (yX12_walk).cls ≠ "java/lang/invoke/VarHandle") ∧ (parseMethodDescriptor (yX12_walk).desc).map (fun d => d.parameters.length) = some 3 ∧ (mX12_walk).2.2.1 ≤ 100 := ⟨wd_1974, wd_126, by decide +kernel, by decide +kernel, by decide⟩
theorem ck_X12_compare : Cond.code yX12_compare (mX12_compare).2.1 (mX12_compare).2.2.1 (mX12_compare).2.2.2.1 ∈ tw_l ∧ Cond.initialized (yX12_compare).cls ∈ tw_l ∧ ((yX12_compare).cls ≠ "java/lang/invoke/MethodHandle" ∧ (yX12_compare).cls ≠ "java/lang/invoke/VarHandle") ∧ (parseMethodDescriptor (yX12_compare).desc).map (fun d => d.parameters.length) = some 6 ∧ (mX12_compare).2.2.1 ≤ 100 := ⟨wd_1977, wd_126, by decide +kernel, by decide +kernel, by decide⟩
theorem ck_X12_codeInto : Cond.code yX12_codeInto (mX12_codeInto).2.1 (mX12_codeInto).2.2.1 (mX12_codeInto).2.2.2.1 ∈ tw_l ∧ Cond.initialized (yX12_codeInto).cls ∈ tw_l ∧ ((yX12_codeInto).cls ≠ "java/lang/invoke/MethodHandle" ∧ (yX12_codeInto).cls ≠ "java/lang/invoke/VarHandle") ∧ (parseMethodDescriptor (yX12_codeInto).desc).map (fun d => d.parameters.length) = some 3 ∧ (mX12_codeInto).2.2.1 ≤ 100 := ⟨wd_1970, wd_126, by decide +kernel, by decide +kernel, by decide⟩
theorem ck_X12_sortInto : Cond.code yX12_sortInto (mX12_sortInto).2.1 (mX12_sortInto).2.2.1 (mX12_sortInto).2.2.2.1 ∈ tw_l ∧ Cond.initialized (yX12_sortInto).cls ∈ tw_l ∧ ((yX12_sortInto).cls ≠ "java/lang/invoke/MethodHandle" ∧ (yX12_sortInto).cls ≠ "java/lang/invoke/VarHandle") ∧ (parseMethodDescriptor (yX12_sortInto).desc).map (fun d => d.parameters.length) = some 4 ∧ (mX12_sortInto).2.2.1 ≤ 100 := ⟨wd_1981, wd_126, by decide +kernel, by decide +kernel, by decide⟩
theorem ck_X12_areAlike : Cond.code yX12_areAlike (mX12_areAlike).2.1 (mX12_areAlike).2.2.1 (mX12_areAlike).2.2.2.1 ∈ tw_l ∧ Cond.initialized (yX12_areAlike).cls ∈ tw_l ∧ ((yX12_areAlike).cls ≠ "java/lang/invoke/MethodHandle" ∧ (yX12_areAlike).cls ≠ "java/lang/invoke/VarHandle") ∧ (parseMethodDescriptor (yX12_areAlike).desc).map (fun d => d.parameters.length) = some 4 ∧ (mX12_areAlike).2.2.1 ≤ 100 := ⟨wd_1984, wd_126, by decide +kernel, by decide +kernel, by decide⟩
theorem ck_X12_like : Cond.code yX12_like (mX12_like).2.1 (mX12_like).2.2.1 (mX12_like).2.2.2.1 ∈ tw_l ∧ Cond.initialized (yX12_like).cls ∈ tw_l ∧ ((yX12_like).cls ≠ "java/lang/invoke/MethodHandle" ∧ (yX12_like).cls ≠ "java/lang/invoke/VarHandle") ∧ (parseMethodDescriptor (yX12_like).desc).map (fun d => d.parameters.length) = some 2 ∧ (mX12_like).2.2.1 ≤ 100 := ⟨wd_1966, wd_126, by decide +kernel, by decide +kernel, by decide⟩
theorem ck_X12_beginSearch : Cond.code yX12_beginSearch (mX12_beginSearch).2.1 (mX12_beginSearch).2.2.1 (mX12_beginSearch).2.2.2.1 ∈ tw_l ∧ Cond.initialized (yX12_beginSearch).cls ∈ tw_l ∧ ((yX12_beginSearch).cls ≠ "java/lang/invoke/MethodHandle" ∧ (yX12_beginSearch).cls ≠ "java/lang/invoke/VarHandle") ∧ (parseMethodDescriptor (yX12_beginSearch).desc).map (fun d => d.parameters.length) = some 1 ∧ (mX12_beginSearch).2.2.1 ≤ 100 := ⟨wd_1993, wd_126, by decide +kernel, by decide +kernel, by decide⟩
theorem ck_X12_stepped : Cond.code yX12_stepped (mX12_stepped).2.1 (mX12_stepped).2.2.1 (mX12_stepped).2.2.2.1 ∈ tw_l ∧ Cond.initialized (yX12_stepped).cls ∈ tw_l ∧ ((yX12_stepped).cls ≠ "java/lang/invoke/MethodHandle" ∧ (yX12_stepped).cls ≠ "java/lang/invoke/VarHandle") ∧ (parseMethodDescriptor (yX12_stepped).desc).map (fun d => d.parameters.length) = some 1 ∧ (mX12_stepped).2.2.1 ≤ 100 := ⟨wd_2001, wd_126, by decide +kernel, by decide +kernel, by decide⟩
theorem ck_X12_kept : Cond.code yX12_kept (mX12_kept).2.1 (mX12_kept).2.2.1 (mX12_kept).2.2.2.1 ∈ tw_l ∧ Cond.initialized (yX12_kept).cls ∈ tw_l ∧ ((yX12_kept).cls ≠ "java/lang/invoke/MethodHandle" ∧ (yX12_kept).cls ≠ "java/lang/invoke/VarHandle") ∧ (parseMethodDescriptor (yX12_kept).desc).map (fun d => d.parameters.length) = some 1 ∧ (mX12_kept).2.2.1 ≤ 100 := ⟨wd_2005, wd_126, by decide +kernel, by decide +kernel, by decide⟩
theorem ck_X12_goes : Cond.code yX12_goes (mX12_goes).2.1 (mX12_goes).2.2.1 (mX12_goes).2.2.2.1 ∈ tw_l ∧ Cond.initialized (yX12_goes).cls ∈ tw_l ∧ ((yX12_goes).cls ≠ "java/lang/invoke/MethodHandle" ∧ (yX12_goes).cls ≠ "java/lang/invoke/VarHandle") ∧ (parseMethodDescriptor (yX12_goes).desc).map (fun d => d.parameters.length) = some 2 ∧ (mX12_goes).2.2.1 ≤ 100 := ⟨wd_1997, wd_126, by decide +kernel, by decide +kernel, by decide⟩
theorem ck_X12_search : Cond.code yX12_search (mX12_search).2.1 (mX12_search).2.2.1 (mX12_search).2.2.2.1 ∈ tw_l ∧ Cond.initialized (yX12_search).cls ∈ tw_l ∧ ((yX12_search).cls ≠ "java/lang/invoke/MethodHandle" ∧ (yX12_search).cls ≠ "java/lang/invoke/VarHandle") ∧ (parseMethodDescriptor (yX12_search).desc).map (fun d => d.parameters.length) = some 2 ∧ (mX12_search).2.2.1 ≤ 100 := ⟨wd_1988, wd_126, by decide +kernel, by decide +kernel, by decide⟩
theorem ck_X12_goOn : Cond.code yX12_goOn (mX12_goOn).2.1 (mX12_goOn).2.2.1 (mX12_goOn).2.2.2.1 ∈ tw_l ∧ Cond.initialized (yX12_goOn).cls ∈ tw_l ∧ ((yX12_goOn).cls ≠ "java/lang/invoke/MethodHandle" ∧ (yX12_goOn).cls ≠ "java/lang/invoke/VarHandle") ∧ (parseMethodDescriptor (yX12_goOn).desc).map (fun d => d.parameters.length) = some 1 ∧ (mX12_goOn).2.2.1 ≤ 100 := ⟨wd_2009, wd_126, by decide +kernel, by decide +kernel, by decide⟩
theorem ck_X12_fewest : Cond.code yX12_fewest (mX12_fewest).2.1 (mX12_fewest).2.2.1 (mX12_fewest).2.2.2.1 ∈ tw_l ∧ Cond.initialized (yX12_fewest).cls ∈ tw_l ∧ ((yX12_fewest).cls ≠ "java/lang/invoke/MethodHandle" ∧ (yX12_fewest).cls ≠ "java/lang/invoke/VarHandle") ∧ (parseMethodDescriptor (yX12_fewest).desc).map (fun d => d.parameters.length) = some 0 ∧ (mX12_fewest).2.2.1 ≤ 100 := ⟨wd_2017, wd_126, by decide +kernel, by decide +kernel, by decide⟩
theorem ck_X12_searched : Cond.code yX12_searched (mX12_searched).2.1 (mX12_searched).2.2.1 (mX12_searched).2.2.2.1 ∈ tw_l ∧ Cond.initialized (yX12_searched).cls ∈ tw_l ∧ ((yX12_searched).cls ≠ "java/lang/invoke/MethodHandle" ∧ (yX12_searched).cls ≠ "java/lang/invoke/VarHandle") ∧ (parseMethodDescriptor (yX12_searched).desc).map (fun d => d.parameters.length) = some 1 ∧ (mX12_searched).2.2.1 ≤ 100 := ⟨wd_2013, wd_126, by decide +kernel, by decide +kernel, by decide⟩
theorem ck_X12_waysTo : Cond.code yX12_waysTo (mX12_waysTo).2.1 (mX12_waysTo).2.2.1 (mX12_waysTo).2.2.2.1 ∈ tw_l ∧ Cond.initialized (yX12_waysTo).cls ∈ tw_l ∧ ((yX12_waysTo).cls ≠ "java/lang/invoke/MethodHandle" ∧ (yX12_waysTo).cls ≠ "java/lang/invoke/VarHandle") ∧ (parseMethodDescriptor (yX12_waysTo).desc).map (fun d => d.parameters.length) = some 1 ∧ (mX12_waysTo).2.2.1 ≤ 100 := ⟨wd_2025, wd_126, by decide +kernel, by decide +kernel, by decide⟩
theorem ck_X12_fewer : Cond.code yX12_fewer (mX12_fewer).2.1 (mX12_fewer).2.2.1 (mX12_fewer).2.2.2.1 ∈ tw_l ∧ Cond.initialized (yX12_fewer).cls ∈ tw_l ∧ ((yX12_fewer).cls ≠ "java/lang/invoke/MethodHandle" ∧ (yX12_fewer).cls ≠ "java/lang/invoke/VarHandle") ∧ (parseMethodDescriptor (yX12_fewer).desc).map (fun d => d.parameters.length) = some 0 ∧ (mX12_fewer).2.2.1 ≤ 100 := ⟨wd_2021, wd_126, by decide +kernel, by decide +kernel, by decide⟩
theorem ck_X12_partsBy : Cond.code yX12_partsBy (mX12_partsBy).2.1 (mX12_partsBy).2.2.1 (mX12_partsBy).2.2.2.1 ∈ tw_l ∧ Cond.initialized (yX12_partsBy).cls ∈ tw_l ∧ ((yX12_partsBy).cls ≠ "java/lang/invoke/MethodHandle" ∧ (yX12_partsBy).cls ≠ "java/lang/invoke/VarHandle") ∧ (parseMethodDescriptor (yX12_partsBy).desc).map (fun d => d.parameters.length) = some 2 ∧ (mX12_partsBy).2.2.1 ≤ 100 := ⟨wd_2033, wd_126, by decide +kernel, by decide +kernel, by decide⟩
theorem ck_X12_polynomialsPart : Cond.code yX12_polynomialsPart (mX12_polynomialsPart).2.1 (mX12_polynomialsPart).2.2.1 (mX12_polynomialsPart).2.2.2.1 ∈ tw_l ∧ Cond.initialized (yX12_polynomialsPart).cls ∈ tw_l ∧ ((yX12_polynomialsPart).cls ≠ "java/lang/invoke/MethodHandle" ∧ (yX12_polynomialsPart).cls ≠ "java/lang/invoke/VarHandle") ∧ (parseMethodDescriptor (yX12_polynomialsPart).desc).map (fun d => d.parameters.length) = some 2 ∧ (mX12_polynomialsPart).2.2.1 ≤ 100 := ⟨wd_2037, wd_126, by decide +kernel, by decide +kernel, by decide⟩
theorem ck_X12_same : Cond.code yX12_same (mX12_same).2.1 (mX12_same).2.2.1 (mX12_same).2.2.2.1 ∈ tw_l ∧ Cond.initialized (yX12_same).cls ∈ tw_l ∧ ((yX12_same).cls ≠ "java/lang/invoke/MethodHandle" ∧ (yX12_same).cls ≠ "java/lang/invoke/VarHandle") ∧ (parseMethodDescriptor (yX12_same).desc).map (fun d => d.parameters.length) = some 3 ∧ (mX12_same).2.2.1 ≤ 100 := ⟨wd_2029, wd_126, by decide +kernel, by decide +kernel, by decide⟩
theorem ck_X12_parted : Cond.code yX12_parted (mX12_parted).2.1 (mX12_parted).2.2.1 (mX12_parted).2.2.2.1 ∈ tw_l ∧ Cond.initialized (yX12_parted).cls ∈ tw_l ∧ ((yX12_parted).cls ≠ "java/lang/invoke/MethodHandle" ∧ (yX12_parted).cls ≠ "java/lang/invoke/VarHandle") ∧ (parseMethodDescriptor (yX12_parted).desc).map (fun d => d.parameters.length) = some 0 ∧ (mX12_parted).2.2.1 ≤ 100 := ⟨wd_2041, wd_126, by decide +kernel, by decide +kernel, by decide⟩
theorem ck_X12_way : Cond.code yX12_way (mX12_way).2.1 (mX12_way).2.2.1 (mX12_way).2.2.2.1 ∈ tw_l ∧ Cond.initialized (yX12_way).cls ∈ tw_l ∧ ((yX12_way).cls ≠ "java/lang/invoke/MethodHandle" ∧ (yX12_way).cls ≠ "java/lang/invoke/VarHandle") ∧ (parseMethodDescriptor (yX12_way).desc).map (fun d => d.parameters.length) = some 1 ∧ (mX12_way).2.2.1 ≤ 100 := ⟨wd_2045, wd_126, by decide +kernel, by decide +kernel, by decide⟩
theorem ck_X12_check : Cond.code yX12_check (mX12_check).2.1 (mX12_check).2.2.1 (mX12_check).2.2.2.1 ∈ tw_l ∧ Cond.initialized (yX12_check).cls ∈ tw_l ∧ ((yX12_check).cls ≠ "java/lang/invoke/MethodHandle" ∧ (yX12_check).cls ≠ "java/lang/invoke/VarHandle") ∧ (parseMethodDescriptor (yX12_check).desc).map (fun d => d.parameters.length) = some 1 ∧ (mX12_check).2.2.1 ≤ 100 := ⟨wd_2049, wd_126, by decide +kernel, by decide +kernel, by decide⟩
theorem ck_X12_named : Cond.code yX12_named (mX12_named).2.1 (mX12_named).2.2.1 (mX12_named).2.2.2.1 ∈ tw_l ∧ Cond.initialized (yX12_named).cls ∈ tw_l ∧ ((yX12_named).cls ≠ "java/lang/invoke/MethodHandle" ∧ (yX12_named).cls ≠ "java/lang/invoke/VarHandle") ∧ (parseMethodDescriptor (yX12_named).desc).map (fun d => d.parameters.length) = some 0 ∧ (mX12_named).2.2.1 ≤ 100 := ⟨wd_2061, wd_126, by decide +kernel, by decide +kernel, by decide⟩
theorem ck_X12_book : Cond.code yX12_book (mX12_book).2.1 (mX12_book).2.2.1 (mX12_book).2.2.2.1 ∈ tw_l ∧ Cond.initialized (yX12_book).cls ∈ tw_l ∧ ((yX12_book).cls ≠ "java/lang/invoke/MethodHandle" ∧ (yX12_book).cls ≠ "java/lang/invoke/VarHandle") ∧ (parseMethodDescriptor (yX12_book).desc).map (fun d => d.parameters.length) = some 2 ∧ (mX12_book).2.2.1 ≤ 100 := ⟨wd_2053, wd_126, by decide +kernel, by decide +kernel, by decide⟩
theorem ck_X12_name : Cond.code yX12_name (mX12_name).2.1 (mX12_name).2.2.1 (mX12_name).2.2.2.1 ∈ tw_l ∧ Cond.initialized (yX12_name).cls ∈ tw_l ∧ ((yX12_name).cls ≠ "java/lang/invoke/MethodHandle" ∧ (yX12_name).cls ≠ "java/lang/invoke/VarHandle") ∧ (parseMethodDescriptor (yX12_name).desc).map (fun d => d.parameters.length) = some 1 ∧ (mX12_name).2.2.1 ≤ 100 := ⟨wd_2057, wd_126, by decide +kernel, by decide +kernel, by decide⟩
theorem ck_X12_count : Cond.code yX12_count (mX12_count).2.1 (mX12_count).2.2.1 (mX12_count).2.2.2.1 ∈ tw_l ∧ Cond.initialized (yX12_count).cls ∈ tw_l ∧ ((yX12_count).cls ≠ "java/lang/invoke/MethodHandle" ∧ (yX12_count).cls ≠ "java/lang/invoke/VarHandle") ∧ (parseMethodDescriptor (yX12_count).desc).map (fun d => d.parameters.length) = some 1 ∧ (mX12_count).2.2.1 ≤ 100 := ⟨wd_2065, wd_126, by decide +kernel, by decide +kernel, by decide⟩
theorem ck_X12_findings : Cond.code yX12_findings (mX12_findings).2.1 (mX12_findings).2.2.1 (mX12_findings).2.2.2.1 ∈ tw_l ∧ Cond.initialized (yX12_findings).cls ∈ tw_l ∧ ((yX12_findings).cls ≠ "java/lang/invoke/MethodHandle" ∧ (yX12_findings).cls ≠ "java/lang/invoke/VarHandle") ∧ (parseMethodDescriptor (yX12_findings).desc).map (fun d => d.parameters.length) = some 1 ∧ (mX12_findings).2.2.1 ≤ 100 := ⟨wd_2069, wd_126, by decide +kernel, by decide +kernel, by decide⟩
theorem ck_X12_status : Cond.code yX12_status (mX12_status).2.1 (mX12_status).2.2.1 (mX12_status).2.2.2.1 ∈ tw_l ∧ Cond.initialized (yX12_status).cls ∈ tw_l ∧ ((yX12_status).cls ≠ "java/lang/invoke/MethodHandle" ∧ (yX12_status).cls ≠ "java/lang/invoke/VarHandle") ∧ (parseMethodDescriptor (yX12_status).desc).map (fun d => d.parameters.length) = some 0 ∧ (mX12_status).2.2.1 ≤ 100 := ⟨wd_2073, wd_126, by decide +kernel, by decide +kernel, by decide⟩
theorem ck_X12_digest : Cond.code yX12_digest (mX12_digest).2.1 (mX12_digest).2.2.1 (mX12_digest).2.2.2.1 ∈ tw_l ∧ Cond.initialized (yX12_digest).cls ∈ tw_l ∧ ((yX12_digest).cls ≠ "java/lang/invoke/MethodHandle" ∧ (yX12_digest).cls ≠ "java/lang/invoke/VarHandle") ∧ (parseMethodDescriptor (yX12_digest).desc).map (fun d => d.parameters.length) = some 0 ∧ (mX12_digest).2.2.1 ≤ 100 := ⟨wd_2077, wd_126, by decide +kernel, by decide +kernel, by decide⟩
theorem ck_J9_floorMod_7cf53 : Cond.code yJ9_floorMod_7cf53 (mJ9_floorMod_7cf53).2.1 (mJ9_floorMod_7cf53).2.2.1 (mJ9_floorMod_7cf53).2.2.2.1 ∈ tw_l ∧ Cond.initialized (yJ9_floorMod_7cf53).cls ∈ tw_l ∧ ((yJ9_floorMod_7cf53).cls ≠ "java/lang/invoke/MethodHandle" ∧ (yJ9_floorMod_7cf53).cls ≠ "java/lang/invoke/VarHandle") ∧ (parseMethodDescriptor (yJ9_floorMod_7cf53).desc).map (fun d => d.parameters.length) = some 2 ∧ (mJ9_floorMod_7cf53).2.2.1 ≤ 100 := ⟨wd_806, wd_115, by decide +kernel, by decide +kernel, by decide⟩
theorem ck_J9_abs_067f4 : Cond.code yJ9_abs_067f4 (mJ9_abs_067f4).2.1 (mJ9_abs_067f4).2.2.1 (mJ9_abs_067f4).2.2.2.1 ∈ tw_l ∧ Cond.initialized (yJ9_abs_067f4).cls ∈ tw_l ∧ ((yJ9_abs_067f4).cls ≠ "java/lang/invoke/MethodHandle" ∧ (yJ9_abs_067f4).cls ≠ "java/lang/invoke/VarHandle") ∧ (parseMethodDescriptor (yJ9_abs_067f4).desc).map (fun d => d.parameters.length) = some 1 ∧ (mJ9_abs_067f4).2.2.1 ≤ 100 := ⟨wd_927, wd_115, by decide +kernel, by decide +kernel, by decide⟩
theorem ck_J9_max_7cf53 : Cond.code yJ9_max_7cf53 (mJ9_max_7cf53).2.1 (mJ9_max_7cf53).2.2.1 (mJ9_max_7cf53).2.2.2.1 ∈ tw_l ∧ Cond.initialized (yJ9_max_7cf53).cls ∈ tw_l ∧ ((yJ9_max_7cf53).cls ≠ "java/lang/invoke/MethodHandle" ∧ (yJ9_max_7cf53).cls ≠ "java/lang/invoke/VarHandle") ∧ (parseMethodDescriptor (yJ9_max_7cf53).desc).map (fun d => d.parameters.length) = some 2 ∧ (mJ9_max_7cf53).2.2.1 ≤ 100 := ⟨wd_149, wd_115, by decide +kernel, by decide +kernel, by decide⟩
theorem ck_J9_min_7cf53 : Cond.code yJ9_min_7cf53 (mJ9_min_7cf53).2.1 (mJ9_min_7cf53).2.2.1 (mJ9_min_7cf53).2.2.2.1 ∈ tw_l ∧ Cond.initialized (yJ9_min_7cf53).cls ∈ tw_l ∧ ((yJ9_min_7cf53).cls ≠ "java/lang/invoke/MethodHandle" ∧ (yJ9_min_7cf53).cls ≠ "java/lang/invoke/VarHandle") ∧ (parseMethodDescriptor (yJ9_min_7cf53).desc).map (fun d => d.parameters.length) = some 2 ∧ (mJ9_min_7cf53).2.2.1 ≤ 100 := ⟨wd_711, wd_115, by decide +kernel, by decide +kernel, by decide⟩
theorem ck_J7_rangeCheck_23922 : Cond.code yJ7_rangeCheck_23922 (mJ7_rangeCheck_23922).2.1 (mJ7_rangeCheck_23922).2.2.1 (mJ7_rangeCheck_23922).2.2.2.1 ∈ tw_l ∧ Cond.initialized (yJ7_rangeCheck_23922).cls ∈ tw_l ∧ ((yJ7_rangeCheck_23922).cls ≠ "java/lang/invoke/MethodHandle" ∧ (yJ7_rangeCheck_23922).cls ≠ "java/lang/invoke/VarHandle") ∧ (parseMethodDescriptor (yJ7_rangeCheck_23922).desc).map (fun d => d.parameters.length) = some 3 ∧ (mJ7_rangeCheck_23922).2.2.1 ≤ 100 := ⟨wd_764, wd_118, by decide +kernel, by decide +kernel, by decide⟩
theorem ck_J7_fill_d0a16 : Cond.code yJ7_fill_d0a16 (mJ7_fill_d0a16).2.1 (mJ7_fill_d0a16).2.2.1 (mJ7_fill_d0a16).2.2.2.1 ∈ tw_l ∧ Cond.initialized (yJ7_fill_d0a16).cls ∈ tw_l ∧ ((yJ7_fill_d0a16).cls ≠ "java/lang/invoke/MethodHandle" ∧ (yJ7_fill_d0a16).cls ≠ "java/lang/invoke/VarHandle") ∧ (parseMethodDescriptor (yJ7_fill_d0a16).desc).map (fun d => d.parameters.length) = some 2 ∧ (mJ7_fill_d0a16).2.2.1 ≤ 100 := ⟨wd_865, wd_118, by decide +kernel, by decide +kernel, by decide⟩
theorem ck_J7_fill_53178 : Cond.code yJ7_fill_53178 (mJ7_fill_53178).2.1 (mJ7_fill_53178).2.2.1 (mJ7_fill_53178).2.2.2.1 ∈ tw_l ∧ Cond.initialized (yJ7_fill_53178).cls ∈ tw_l ∧ ((yJ7_fill_53178).cls ≠ "java/lang/invoke/MethodHandle" ∧ (yJ7_fill_53178).cls ≠ "java/lang/invoke/VarHandle") ∧ (parseMethodDescriptor (yJ7_fill_53178).desc).map (fun d => d.parameters.length) = some 2 ∧ (mJ7_fill_53178).2.2.1 ≤ 100 := ⟨wd_252, wd_118, by decide +kernel, by decide +kernel, by decide⟩
theorem ck_J7_fill_fda19 : Cond.code yJ7_fill_fda19 (mJ7_fill_fda19).2.1 (mJ7_fill_fda19).2.2.1 (mJ7_fill_fda19).2.2.2.1 ∈ tw_l ∧ Cond.initialized (yJ7_fill_fda19).cls ∈ tw_l ∧ ((yJ7_fill_fda19).cls ≠ "java/lang/invoke/MethodHandle" ∧ (yJ7_fill_fda19).cls ≠ "java/lang/invoke/VarHandle") ∧ (parseMethodDescriptor (yJ7_fill_fda19).desc).map (fun d => d.parameters.length) = some 4 ∧ (mJ7_fill_fda19).2.2.1 ≤ 100 := ⟨wd_761, wd_118, by decide +kernel, by decide +kernel, by decide⟩
theorem cl_L_9 {M : MM} (h : M.1 = RL := by rfl) : cs_ M 9 yX11_init mX11_init 0 := ⟨by rw [h]; exact Or.inl wd_131, ck_X11_init⟩
theorem cl_X11_23 {M : MM} (h : M.1 = RX11 := by rfl) : cs_ M 23 yX6_init mX6_init 1 := ⟨by rw [h]; exact Or.inl wd_143, ck_X6_init⟩
theorem cl_X6_7 {M : MM} (h : M.1 = RX6 := by rfl) : cs_ M 7 yJ9_max_7cf53 mJ9_max_7cf53 2 := ⟨by rw [h]; exact Or.inl wd_147, ck_J9_max_7cf53⟩
theorem cl_X11_35 {M : MM} (h : M.1 = RX11 := by rfl) : cs_ M 35 yX4_init mX4_init 0 := ⟨by rw [h]; exact Or.inr ⟨_, wd_164⟩, ck_X4_init⟩
theorem cl_X11_43 {M : MM} (h : M.1 = RX11 := by rfl) : cs_ M 43 yX7_init mX7_init 0 := ⟨by rw [h]; exact Or.inl wd_246, ck_X7_init⟩
theorem cl_X7_18 {M : MM} (h : M.1 = RX7 := by rfl) : cs_ M 18 yJ7_fill_53178 mJ7_fill_53178 2 := ⟨by rw [h]; exact Or.inl wd_250, ck_J7_fill_53178⟩
theorem cl_X11_50 {M : MM} (h : M.1 = RX11 := by rfl) : cs_ M 50 yX9_init mX9_init 0 := ⟨by rw [h]; exact Or.inr ⟨_, wd_293⟩, ck_X9_init⟩
theorem cl_X11_57 {M : MM} (h : M.1 = RX11 := by rfl) : cs_ M 57 yX2_init mX2_init 0 := ⟨by rw [h]; exact Or.inr ⟨_, wd_315⟩, ck_X2_init⟩
theorem cl_X11_70 {M : MM} (h : M.1 = RX11 := by rfl) : cs_ M 70 yX1_init mX1_init 0 := ⟨by rw [h]; exact Or.inr ⟨_, wd_333⟩, ck_X1_init⟩
theorem cl_X11_77 {M : MM} (h : M.1 = RX11 := by rfl) : cs_ M 77 yX8_init mX8_init 0 := ⟨by rw [h]; exact Or.inr ⟨_, wd_350⟩, ck_X8_init⟩
theorem cl_X8_17 {M : MM} (h : M.1 = RX8 := by rfl) : cs_ M 17 yX10_init mX10_init 0 := ⟨by rw [h]; exact Or.inr ⟨_, wd_357⟩, ck_X10_init⟩
theorem cl_X8_24 {M : MM} (h : M.1 = RX8 := by rfl) : cs_ M 24 yX3_init mX3_init 0 := ⟨by rw [h]; exact Or.inr ⟨_, wd_388⟩, ck_X3_init⟩
theorem cl_X8_31 {M : MM} (h : M.1 = RX8 := by rfl) : cs_ M 31 yX6_init mX6_init 1 := ⟨by rw [h]; exact Or.inl wd_406, ck_X6_init⟩
theorem cl_X8_40 {M : MM} (h : M.1 = RX8 := by rfl) : cs_ M 40 yX7_init mX7_init 0 := ⟨by rw [h]; exact Or.inl wd_408, ck_X7_init⟩
theorem cl_X8_50 {M : MM} (h : M.1 = RX8 := by rfl) : cs_ M 50 yX4_init mX4_init 0 := ⟨by rw [h]; exact Or.inr ⟨_, wd_410⟩, ck_X4_init⟩
theorem cl_X11_84 {M : MM} (h : M.1 = RX11 := by rfl) : cs_ M 84 yX0_init mX0_init 0 := ⟨by rw [h]; exact Or.inr ⟨_, wd_469⟩, ck_X0_init⟩
theorem cl_L_13 {M : MM} (h : M.1 = RL := by rfl) : cs_ M 13 yX11_picture mX11_picture 0 := ⟨by rw [h]; exact Or.inl wd_547, ck_X11_picture⟩
theorem cl_X11_116 {M : MM} (h : M.1 = RX11 := by rfl) : cs_ M 116 yX11_isFull mX11_isFull 0 := ⟨by rw [h]; exact Or.inl wd_551, ck_X11_isFull⟩
theorem cl_X11_120 {M : MM} (h : M.1 = RX11 := by rfl) : cs_ M 120 yX11_refuse mX11_refuse 1 := ⟨by rw [h]; exact Or.inl wd_555, ck_X11_refuse⟩
theorem cl_X11_124 {M : MM} (h : M.1 = RX11 := by rfl) : cs_ M 124 yX7_empty mX7_empty 0 := ⟨by rw [h]; exact Or.inl wd_559, ck_X7_empty⟩
theorem cl_X11_127 {M : MM} (h : M.1 = RX11 := by rfl) : cs_ M 127 yX11_addLike mX11_addLike 1 := ⟨by rw [h]; exact Or.inl wd_563, ck_X11_addLike⟩
theorem cl_X11_113 {M : MM} (h : M.1 = RX11 := by rfl) : cs_ M 113 yX7_take mX7_take 1 := ⟨by rw [h]; exact Or.inl wd_567, ck_X7_take⟩
theorem cl_X11_131 {M : MM} (h : M.1 = RX11 := by rfl) : cs_ M 131 yX11_grant mX11_grant 1 := ⟨by rw [h]; exact Or.inl wd_574, ck_X11_grant⟩
theorem cl_L_18 {M : MM} (h : M.1 = RL := by rfl) : cs_ M 18 yX11_crossing mX11_crossing 5 := ⟨by rw [h]; exact Or.inl wd_578, ck_X11_crossing⟩
theorem cl_X11_134 {M : MM} (h : M.1 = RX11 := by rfl) : cs_ M 134 yX11_hasPicture mX11_hasPicture 1 := ⟨by rw [h]; exact Or.inl wd_582, ck_X11_hasPicture⟩
theorem cl_X11_138 {M : MM} (h : M.1 = RX11 := by rfl) : cs_ M 138 yX11_isArc mX11_isArc 1 := ⟨by rw [h]; exact Or.inl wd_586, ck_X11_isArc⟩
theorem cl_X11_144 {M : MM} (h : M.1 = RX11 := by rfl) : cs_ M 144 yX7_forget mX7_forget 0 := ⟨by rw [h]; exact Or.inl wd_589, ck_X7_forget⟩
theorem cl_X11_147 {M : MM} (h : M.1 = RX11 := by rfl) : cs_ M 147 yX7_add mX7_add 4 := ⟨by rw [h]; exact Or.inl wd_593, ck_X7_add⟩
theorem cl_L_23 {M : MM} (h : M.1 = RL := by rfl) : cs_ M 23 yX11_row mX11_row 3 := ⟨by rw [h]; exact Or.inl wd_597, ck_X11_row⟩
theorem cl_X11_151 {M : MM} (h : M.1 = RX11 := by rfl) : cs_ M 151 yX7_hasCrossing mX7_hasCrossing 1 := ⟨by rw [h]; exact Or.inl wd_601, ck_X7_hasCrossing⟩
theorem cl_X11_154 {M : MM} (h : M.1 = RX11 := by rfl) : cs_ M 154 yX7_resize mX7_resize 2 := ⟨by rw [h]; exact Or.inl wd_605, ck_X7_resize⟩
theorem cl_X7_37 {M : MM} (h : M.1 = RX7 := by rfl) : cs_ M 37 yJ9_max_7cf53 mJ9_max_7cf53 2 := ⟨by rw [h]; exact Or.inl wd_609, ck_J9_max_7cf53⟩
theorem cl_L_28 {M : MM} (h : M.1 = RL := by rfl) : cs_ M 28 yX11_end mX11_end 3 := ⟨by rw [h]; exact Or.inl wd_610, ck_X11_end⟩
theorem cl_X11_161 {M : MM} (h : M.1 = RX11 := by rfl) : cs_ M 161 yX11_whyOutOfReach mX11_whyOutOfReach 3 := ⟨by rw [h]; exact Or.inl wd_614, ck_X11_whyOutOfReach⟩
theorem cl_L_32 {M : MM} (h : M.1 = RL := by rfl) : cs_ M 32 yX11_put mX11_put 4 := ⟨by rw [h]; exact Or.inl wd_617, ck_X11_put⟩
theorem cl_L_37 {M : MM} (h : M.1 = RL := by rfl) : cs_ M 37 yX11_copy mX11_copy 7 := ⟨by rw [h]; exact Or.inl wd_621, ck_X11_copy⟩
theorem cl_X11_168 {M : MM} (h : M.1 = RX11 := by rfl) : cs_ M 168 yX11_reaches mX11_reaches 3 := ⟨by rw [h]; exact Or.inl wd_625, ck_X11_reaches⟩
theorem cl_L_42 {M : MM} (h : M.1 = RL := by rfl) : cs_ M 42 yX11_loose mX11_loose 2 := ⟨by rw [h]; exact Or.inl wd_629, ck_X11_loose⟩
theorem cl_L_47 {M : MM} (h : M.1 = RL := by rfl) : cs_ M 47 yX11_open mX11_open 1 := ⟨by rw [h]; exact Or.inl wd_633, ck_X11_open⟩
theorem cl_X11_103 {M : MM} (h : M.1 = RX11 := by rfl) : cs_ M 103 yX4_survey mX4_survey 1 := ⟨by rw [h]; exact Or.inl wd_637, ck_X4_survey⟩
theorem cl_X4_62 {M : MM} (h : M.1 = RX4 := by rfl) : cs_ M 62 yX4_findFault mX4_findFault 1 := ⟨by rw [h]; exact Or.inl wd_641, ck_X4_findFault⟩
theorem cl_X4_90 {M : MM} (h : M.1 = RX4 := by rfl) : cs_ M 90 yX4_blame mX4_blame 2 := ⟨by rw [h]; exact Or.inl wd_645, ck_X4_blame⟩
theorem cl_X4_97 {M : MM} (h : M.1 = RX4 := by rfl) : cs_ M 97 yJ7_fill_53178 mJ7_fill_53178 2 := ⟨by rw [h]; exact Or.inl wd_649, ck_J7_fill_53178⟩
theorem cl_X4_66 {M : MM} (h : M.1 = RX4 := by rfl) : cs_ M 66 yX4_pairUp mX4_pairUp 1 := ⟨by rw [h]; exact Or.inl wd_650, ck_X4_pairUp⟩
theorem cl_X4_69 {M : MM} (h : M.1 = RX4 := by rfl) : cs_ M 69 yX4_findRegions mX4_findRegions 0 := ⟨by rw [h]; exact Or.inl wd_654, ck_X4_findRegions⟩
theorem cl_X4_107 {M : MM} (h : M.1 = RX4 := by rfl) : cs_ M 107 yX4_walkRegion mX4_walkRegion 1 := ⟨by rw [h]; exact Or.inl wd_658, ck_X4_walkRegion⟩
theorem cl_X4_103 {M : MM} (h : M.1 = RX4 := by rfl) : cs_ M 103 yX11_corner mX11_corner 2 := ⟨by rw [h]; exact Or.inr ⟨_, wd_662⟩, ck_X11_corner⟩
theorem cl_X4_72 {M : MM} (h : M.1 = RX4 := by rfl) : cs_ M 72 yX4_findParts mX4_findParts 0 := ⟨by rw [h]; exact Or.inl wd_665, ck_X4_findParts⟩
theorem cl_X4_111 {M : MM} (h : M.1 = RX4 := by rfl) : cs_ M 111 yX4_spreadPart mX4_spreadPart 1 := ⟨by rw [h]; exact Or.inl wd_669, ck_X4_spreadPart⟩
theorem cl_X4_81 {M : MM} (h : M.1 = RX4 := by rfl) : cs_ M 81 yX4_findPieces mX4_findPieces 0 := ⟨by rw [h]; exact Or.inl wd_673, ck_X4_findPieces⟩
theorem cl_X4_114 {M : MM} (h : M.1 = RX4 := by rfl) : cs_ M 114 yX4_walkPiece mX4_walkPiece 1 := ⟨by rw [h]; exact Or.inl wd_677, ck_X4_walkPiece⟩
theorem cl_X4_84 {M : MM} (h : M.1 = RX4 := by rfl) : cs_ M 84 yX4_findSigns mX4_findSigns 0 := ⟨by rw [h]; exact Or.inl wd_681, ck_X4_findSigns⟩
theorem cl_L_52 {M : MM} (h : M.1 = RL := by rfl) : cs_ M 52 yX11_where mX11_where 0 := ⟨by rw [h]; exact Or.inl wd_685, ck_X11_where⟩
theorem cl_L_56 {M : MM} (h : M.1 = RL := by rfl) : cs_ M 56 yX11_told mX11_told 2 := ⟨by rw [h]; exact Or.inl wd_689, ck_X11_told⟩
theorem cl_X11_184 {M : MM} (h : M.1 = RX11 := by rfl) : cs_ M 184 yX11_isWhole mX11_isWhole 2 := ⟨by rw [h]; exact Or.inl wd_693, ck_X11_isWhole⟩
theorem cl_X11_188 {M : MM} (h : M.1 = RX11 := by rfl) : cs_ M 188 yX4_allPieces mX4_allPieces 0 := ⟨by rw [h]; exact Or.inl wd_697, ck_X4_allPieces⟩
theorem cl_L_60 {M : MM} (h : M.1 = RL := by rfl) : cs_ M 60 yX11_mirror mX11_mirror 1 := ⟨by rw [h]; exact Or.inl wd_701, ck_X11_mirror⟩
theorem cl_X11_201 {M : MM} (h : M.1 = RX11 := by rfl) : cs_ M 201 yX7_remember mX7_remember 0 := ⟨by rw [h]; exact Or.inl wd_705, ck_X7_remember⟩
theorem cl_X7_79 {M : MM} (h : M.1 = RX7 := by rfl) : cs_ M 79 yJ9_min_7cf53 mJ9_min_7cf53 2 := ⟨by rw [h]; exact Or.inl wd_709, ck_J9_min_7cf53⟩
theorem cl_X11_204 {M : MM} (h : M.1 = RX11 := by rfl) : cs_ M 204 yX7_rotate mX7_rotate 2 := ⟨by rw [h]; exact Or.inl wd_712, ck_X7_rotate⟩
theorem cl_X7_43 {M : MM} (h : M.1 = RX7 := by rfl) : cs_ M 43 yX11_corner mX11_corner 2 := ⟨by rw [h]; exact Or.inr ⟨_, wd_716⟩, ck_X11_corner⟩
theorem cl_L_64 {M : MM} (h : M.1 = RL := by rfl) : cs_ M 64 yX11_turn mX11_turn 1 := ⟨by rw [h]; exact Or.inl wd_717, ck_X11_turn⟩
theorem cl_X11_207 {M : MM} (h : M.1 = RX11 := by rfl) : cs_ M 207 yX7_flip mX7_flip 1 := ⟨by rw [h]; exact Or.inl wd_721, ck_X7_flip⟩
theorem cl_X7_46 {M : MM} (h : M.1 = RX7 := by rfl) : cs_ M 46 yX7_swap mX7_swap 2 := ⟨by rw [h]; exact Or.inl wd_725, ck_X7_swap⟩
theorem cl_L_68 {M : MM} (h : M.1 = RL := by rfl) : cs_ M 68 yX11_join mX11_join 4 := ⟨by rw [h]; exact Or.inl wd_729, ck_X11_join⟩
theorem cl_X11_210 {M : MM} (h : M.1 = RX11 := by rfl) : cs_ M 210 yX4_hasEnd mX4_hasEnd 1 := ⟨by rw [h]; exact Or.inl wd_733, ck_X4_hasEnd⟩
theorem cl_X11_215 {M : MM} (h : M.1 = RX11 := by rfl) : cs_ M 215 yX7_append mX7_append 2 := ⟨by rw [h]; exact Or.inl wd_737, ck_X7_append⟩
theorem cl_X7_57 {M : MM} (h : M.1 = RX7 := by rfl) : cs_ M 57 yX7_add mX7_add 4 := ⟨by rw [h]; exact Or.inl wd_741, ck_X7_add⟩
theorem cl_X7_66 {M : MM} (h : M.1 = RX7 := by rfl) : cs_ M 66 yX7_freeArc mX7_freeArc 1 := ⟨by rw [h]; exact Or.inl wd_742, ck_X7_freeArc⟩
theorem cl_X11_219 {M : MM} (h : M.1 = RX11 := by rfl) : cs_ M 219 yX7_freeArc mX7_freeArc 1 := ⟨by rw [h]; exact Or.inl wd_746, ck_X7_freeArc⟩
theorem cl_L_72 {M : MM} (h : M.1 = RL := by rfl) : cs_ M 72 yX11_twin mX11_twin 1 := ⟨by rw [h]; exact Or.inl wd_747, ck_X11_twin⟩
theorem cl_L_76 {M : MM} (h : M.1 = RL := by rfl) : cs_ M 76 yX11_undo mX11_undo 1 := ⟨by rw [h]; exact Or.inl wd_751, ck_X11_undo⟩
theorem cl_X11_225 {M : MM} (h : M.1 = RX11 := by rfl) : cs_ M 225 yX7_goBack mX7_goBack 0 := ⟨by rw [h]; exact Or.inl wd_755, ck_X7_goBack⟩
theorem cl_X7_54 {M : MM} (h : M.1 = RX7 := by rfl) : cs_ M 54 yJ7_fill_fda19 mJ7_fill_fda19 4 := ⟨by rw [h]; exact Or.inl wd_759, ck_J7_fill_fda19⟩
theorem cl_J7_13 {M : MM} (h : M.1 = RJ7 := by rfl) : cs_ M 13 yJ7_rangeCheck_23922 mJ7_rangeCheck_23922 3 := ⟨by rw [h]; exact Or.inl wd_762, ck_J7_rangeCheck_23922⟩
theorem cl_L_80 {M : MM} (h : M.1 = RL := by rfl) : cs_ M 80 yX11_sign mX11_sign 2 := ⟨by rw [h]; exact Or.inl wd_765, ck_X11_sign⟩
theorem cl_L_84 {M : MM} (h : M.1 = RL := by rfl) : cs_ M 84 yX11_pieceOf mX11_pieceOf 2 := ⟨by rw [h]; exact Or.inl wd_769, ck_X11_pieceOf⟩
theorem cl_L_88 {M : MM} (h : M.1 = RL := by rfl) : cs_ M 88 yX11_linking mX11_linking 3 := ⟨by rw [h]; exact Or.inl wd_773, ck_X11_linking⟩
theorem cl_X11_237 {M : MM} (h : M.1 = RX11 := by rfl) : cs_ M 237 yX4_linkOf mX4_linkOf 2 := ⟨by rw [h]; exact Or.inl wd_777, ck_X4_linkOf⟩
theorem cl_L_92 {M : MM} (h : M.1 = RL := by rfl) : cs_ M 92 yX11_colours mX11_colours 2 := ⟨by rw [h]; exact Or.inl wd_781, ck_X11_colours⟩
theorem cl_X11_244 {M : MM} (h : M.1 = RX11 := by rfl) : cs_ M 244 yX11_isColourCount mX11_isColourCount 1 := ⟨by rw [h]; exact Or.inl wd_785, ck_X11_isColourCount⟩
theorem cl_X11_247 {M : MM} (h : M.1 = RX11 := by rfl) : cs_ M 247 yX1_powerOf mX1_powerOf 2 := ⟨by rw [h]; exact Or.inl wd_790, ck_X1_powerOf⟩
theorem cl_X1_20 {M : MM} (h : M.1 = RX1 := by rfl) : cs_ M 20 yX1_findStrands mX1_findStrands 1 := ⟨by rw [h]; exact Or.inl wd_794, ck_X1_findStrands⟩
theorem cl_X1_30 {M : MM} (h : M.1 = RX1 := by rfl) : cs_ M 30 yJ7_fill_53178 mJ7_fill_53178 2 := ⟨by rw [h]; exact Or.inl wd_798, ck_J7_fill_53178⟩
theorem cl_X1_51 {M : MM} (h : M.1 = RX1 := by rfl) : cs_ M 51 yX1_walkStrand mX1_walkStrand 2 := ⟨by rw [h]; exact Or.inl wd_799, ck_X1_walkStrand⟩
theorem cl_X1_55 {M : MM} (h : M.1 = RX1 := by rfl) : cs_ M 55 yX11_corner mX11_corner 2 := ⟨by rw [h]; exact Or.inr ⟨_, wd_803⟩, ck_X11_corner⟩
theorem cl_X1_36 {M : MM} (h : M.1 = RX1 := by rfl) : cs_ M 36 yJ9_floorMod_7cf53 mJ9_floorMod_7cf53 2 := ⟨by rw [h]; exact Or.inl wd_804, ck_J9_floorMod_7cf53⟩
theorem cl_X1_45 {M : MM} (h : M.1 = RX1 := by rfl) : cs_ M 45 yX1_rank mX1_rank 2 := ⟨by rw [h]; exact Or.inl wd_807, ck_X1_rank⟩
theorem cl_X1_61 {M : MM} (h : M.1 = RX1 := by rfl) : cs_ M 61 yX1_pivotOf mX1_pivotOf 3 := ⟨by rw [h]; exact Or.inl wd_811, ck_X1_pivotOf⟩
theorem cl_X1_65 {M : MM} (h : M.1 = RX1 := by rfl) : cs_ M 65 yX1_clearBelow mX1_clearBelow 4 := ⟨by rw [h]; exact Or.inl wd_815, ck_X1_clearBelow⟩
theorem cl_X1_69 {M : MM} (h : M.1 = RX1 := by rfl) : cs_ M 69 yX1_inverse mX1_inverse 2 := ⟨by rw [h]; exact Or.inl wd_819, ck_X1_inverse⟩
theorem cl_L_96 {M : MM} (h : M.1 = RL := by rfl) : cs_ M 96 yX11_bracket mX11_bracket 1 := ⟨by rw [h]; exact Or.inl wd_822, ck_X11_bracket⟩
theorem cl_X11_257 {M : MM} (h : M.1 = RX11 := by rfl) : cs_ M 257 yX11_whyNoBracket mX11_whyNoBracket 2 := ⟨by rw [h]; exact Or.inl wd_826, ck_X11_whyNoBracket⟩
theorem cl_X11_251 {M : MM} (h : M.1 = RX11 := by rfl) : cs_ M 251 yX9_costOf mX9_costOf 1 := ⟨by rw [h]; exact Or.inl wd_830, ck_X9_costOf⟩
theorem cl_X9_20 {M : MM} (h : M.1 = RX9 := by rfl) : cs_ M 20 yJ9_max_7cf53 mJ9_max_7cf53 2 := ⟨by rw [h]; exact Or.inl wd_833, ck_J9_max_7cf53⟩
theorem cl_X9_26 {M : MM} (h : M.1 = RX9 := by rfl) : cs_ M 26 yJ9_min_7cf53 mJ9_min_7cf53 2 := ⟨by rw [h]; exact Or.inl wd_834, ck_J9_min_7cf53⟩
theorem cl_X11_254 {M : MM} (h : M.1 = RX11 := by rfl) : cs_ M 254 yX9_affords mX9_affords 1 := ⟨by rw [h]; exact Or.inl wd_835, ck_X9_affords⟩
theorem cl_X11_260 {M : MM} (h : M.1 = RX11 := by rfl) : cs_ M 260 yX9_makeBracket mX9_makeBracket 2 := ⟨by rw [h]; exact Or.inl wd_840, ck_X9_makeBracket⟩
theorem cl_X9_40 {M : MM} (h : M.1 = RX9 := by rfl) : cs_ M 40 yX9_costOf mX9_costOf 1 := ⟨by rw [h]; exact Or.inl wd_844, ck_X9_costOf⟩
theorem cl_X9_47 {M : MM} (h : M.1 = RX9 := by rfl) : cs_ M 47 yJ7_fill_53178 mJ7_fill_53178 2 := ⟨by rw [h]; exact Or.inl wd_845, ck_J7_fill_53178⟩
theorem cl_X9_62 {M : MM} (h : M.1 = RX9 := by rfl) : cs_ M 62 yX9_smoothFrom mX9_smoothFrom 3 := ⟨by rw [h]; exact Or.inl wd_847, ck_X9_smoothFrom⟩
theorem cl_X9_89 {M : MM} (h : M.1 = RX9 := by rfl) : cs_ M 89 yX9_tie mX9_tie 2 := ⟨by rw [h]; exact Or.inl wd_851, ck_X9_tie⟩
theorem cl_X9_92 {M : MM} (h : M.1 = RX9 := by rfl) : cs_ M 92 yX9_untie mX9_untie 2 := ⟨by rw [h]; exact Or.inl wd_855, ck_X9_untie⟩
theorem cl_X9_66 {M : MM} (h : M.1 = RX9 := by rfl) : cs_ M 66 yX2_empty mX2_empty 0 := ⟨by rw [h]; exact Or.inl wd_859, ck_X2_empty⟩
theorem cl_X2_16 {M : MM} (h : M.1 = RX2 := by rfl) : cs_ M 16 yJ7_fill_d0a16 mJ7_fill_d0a16 2 := ⟨by rw [h]; exact Or.inl wd_863, ck_J7_fill_d0a16⟩
theorem cl_X9_71 {M : MM} (h : M.1 = RX9 := by rfl) : cs_ M 71 yX2_multiplyByCircle mX2_multiplyByCircle 0 := ⟨by rw [h]; exact Or.inl wd_866, ck_X2_multiplyByCircle⟩
theorem cl_X2_26 {M : MM} (h : M.1 = RX2 := by rfl) : cs_ M 26 yX2_numberAt mX2_numberAt 1 := ⟨by rw [h]; exact Or.inl wd_870, ck_X2_numberAt⟩
theorem cl_X2_30 {M : MM} (h : M.1 = RX2 := by rfl) : cs_ M 30 yX2_swapRows mX2_swapRows 0 := ⟨by rw [h]; exact Or.inl wd_874, ck_X2_swapRows⟩
theorem cl_X9_74 {M : MM} (h : M.1 = RX9 := by rfl) : cs_ M 74 yX2_add mX2_add 2 := ⟨by rw [h]; exact Or.inl wd_878, ck_X2_add⟩
theorem cl_X11_264 {M : MM} (h : M.1 = RX11 := by rfl) : cs_ M 264 yX2_countNumbers mX2_countNumbers 0 := ⟨by rw [h]; exact Or.inl wd_882, ck_X2_countNumbers⟩
theorem cl_L_100 {M : MM} (h : M.1 = RL := by rfl) : cs_ M 100 yX11_polynomial mX11_polynomial 1 := ⟨by rw [h]; exact Or.inl wd_886, ck_X11_polynomial⟩
theorem cl_X11_267 {M : MM} (h : M.1 = RX11 := by rfl) : cs_ M 267 yX9_makePolynomial mX9_makePolynomial 2 := ⟨by rw [h]; exact Or.inl wd_890, ck_X9_makePolynomial⟩
theorem cl_X9_78 {M : MM} (h : M.1 = RX9 := by rfl) : cs_ M 78 yX9_makeBracket mX9_makeBracket 2 := ⟨by rw [h]; exact Or.inl wd_894, ck_X9_makeBracket⟩
theorem cl_X9_85 {M : MM} (h : M.1 = RX9 := by rfl) : cs_ M 85 yX2_levelOut mX2_levelOut 1 := ⟨by rw [h]; exact Or.inl wd_895, ck_X2_levelOut⟩
theorem cl_L_104 {M : MM} (h : M.1 = RL := by rfl) : cs_ M 104 yX11_at mX11_at 1 := ⟨by rw [h]; exact Or.inl wd_899, ck_X11_at⟩
theorem cl_X11_270 {M : MM} (h : M.1 = RX11 := by rfl) : cs_ M 270 yX2_numberAt mX2_numberAt 1 := ⟨by rw [h]; exact Or.inl wd_903, ck_X2_numberAt⟩
theorem cl_L_109 {M : MM} (h : M.1 = RL := by rfl) : cs_ M 109 yX11_power mX11_power 1 := ⟨by rw [h]; exact Or.inl wd_904, ck_X11_power⟩
theorem cl_X11_278 {M : MM} (h : M.1 = RX11 := by rfl) : cs_ M 278 yX2_lowest mX2_lowest 0 := ⟨by rw [h]; exact Or.inl wd_908, ck_X2_lowest⟩
theorem cl_X11_281 {M : MM} (h : M.1 = RX11 := by rfl) : cs_ M 281 yX2_highest mX2_highest 0 := ⟨by rw [h]; exact Or.inl wd_912, ck_X2_highest⟩
theorem cl_L_113 {M : MM} (h : M.1 = RL := by rfl) : cs_ M 113 yX11_determinant mX11_determinant 1 := ⟨by rw [h]; exact Or.inl wd_916, ck_X11_determinant⟩
theorem cl_X11_284 {M : MM} (h : M.1 = RX11 := by rfl) : cs_ M 284 yX2_alternatingSize mX2_alternatingSize 0 := ⟨by rw [h]; exact Or.inl wd_920, ck_X2_alternatingSize⟩
theorem cl_X2_33 {M : MM} (h : M.1 = RX2 := by rfl) : cs_ M 33 yX2_lowest mX2_lowest 0 := ⟨by rw [h]; exact Or.inl wd_924, ck_X2_lowest⟩
theorem cl_X2_37 {M : MM} (h : M.1 = RX2 := by rfl) : cs_ M 37 yJ9_abs_067f4 mJ9_abs_067f4 1 := ⟨by rw [h]; exact Or.inl wd_925, ck_J9_abs_067f4⟩
theorem cl_L_117 {M : MM} (h : M.1 = RL := by rfl) : cs_ M 117 yX11_gauss mX11_gauss 1 := ⟨by rw [h]; exact Or.inl wd_928, ck_X11_gauss⟩
theorem cl_X11_288 {M : MM} (h : M.1 = RX11 := by rfl) : cs_ M 288 yX4_spell mX4_spell 1 := ⟨by rw [h]; exact Or.inl wd_932, ck_X4_spell⟩
theorem cl_X4_120 {M : MM} (h : M.1 = RX4 := by rfl) : cs_ M 120 yX6_empty mX6_empty 0 := ⟨by rw [h]; exact Or.inl wd_936, ck_X6_empty⟩
theorem cl_X4_125 {M : MM} (h : M.1 = RX4 := by rfl) : cs_ M 125 yX6_add mX6_add 1 := ⟨by rw [h]; exact Or.inl wd_940, ck_X6_add⟩
theorem cl_L_121 {M : MM} (h : M.1 = RL := by rfl) : cs_ M 121 yX11_type mX11_type 1 := ⟨by rw [h]; exact Or.inl wd_944, ck_X11_type⟩
theorem cl_X11_295 {M : MM} (h : M.1 = RX11 := by rfl) : cs_ M 295 yX6_add mX6_add 1 := ⟨by rw [h]; exact Or.inl wd_948, ck_X6_add⟩
theorem cl_L_125 {M : MM} (h : M.1 = RL := by rfl) : cs_ M 125 yX11_clear mX11_clear 0 := ⟨by rw [h]; exact Or.inl wd_949, ck_X11_clear⟩
theorem cl_X11_297 {M : MM} (h : M.1 = RX11 := by rfl) : cs_ M 297 yX6_empty mX6_empty 0 := ⟨by rw [h]; exact Or.inl wd_953, ck_X6_empty⟩
theorem cl_L_129 {M : MM} (h : M.1 = RL := by rfl) : cs_ M 129 yX11_item mX11_item 1 := ⟨by rw [h]; exact Or.inl wd_954, ck_X11_item⟩
theorem cl_X11_298 {M : MM} (h : M.1 = RX11 := by rfl) : cs_ M 298 yX6_has mX6_has 1 := ⟨by rw [h]; exact Or.inl wd_958, ck_X6_has⟩
theorem cl_L_133 {M : MM} (h : M.1 = RL := by rfl) : cs_ M 133 yX11_ofGauss mX11_ofGauss 0 := ⟨by rw [h]; exact Or.inl wd_962, ck_X11_ofGauss⟩
theorem cl_X11_304 {M : MM} (h : M.1 = RX11 := by rfl) : cs_ M 304 yX7_draw mX7_draw 1 := ⟨by rw [h]; exact Or.inl wd_966, ck_X7_draw⟩
theorem cl_X7_82 {M : MM} (h : M.1 = RX7 := by rfl) : cs_ M 82 yX7_countPasses mX7_countPasses 1 := ⟨by rw [h]; exact Or.inl wd_970, ck_X7_countPasses⟩
theorem cl_X7_86 {M : MM} (h : M.1 = RX7 := by rfl) : cs_ M 86 yX7_empty mX7_empty 0 := ⟨by rw [h]; exact Or.inl wd_973, ck_X7_empty⟩
theorem cl_X7_97 {M : MM} (h : M.1 = RX7 := by rfl) : cs_ M 97 yX7_closePiece mX7_closePiece 3 := ⟨by rw [h]; exact Or.inl wd_974, ck_X7_closePiece⟩
theorem cl_X7_108 {M : MM} (h : M.1 = RX7 := by rfl) : cs_ M 108 yX7_entryOf mX7_entryOf 1 := ⟨by rw [h]; exact Or.inl wd_978, ck_X7_entryOf⟩
theorem cl_X7_50 {M : MM} (h : M.1 = RX7 := by rfl) : cs_ M 50 yX7_hasCrossing mX7_hasCrossing 1 := ⟨by rw [h]; exact Or.inl wd_981, ck_X7_hasCrossing⟩
theorem cl_X7_101 {M : MM} (h : M.1 = RX7 := by rfl) : cs_ M 101 yX6_holds mX6_holds 1 := ⟨by rw [h]; exact Or.inl wd_982, ck_X6_holds⟩
theorem cl_X7_104 {M : MM} (h : M.1 = RX7 := by rfl) : cs_ M 104 yX7_drawPass mX7_drawPass 3 := ⟨by rw [h]; exact Or.inl wd_986, ck_X7_drawPass⟩
theorem cl_L_137 {M : MM} (h : M.1 = RL := by rfl) : cs_ M 137 yX11_move mX11_move 4 := ⟨by rw [h]; exact Or.inl wd_990, ck_X11_move⟩
theorem cl_X11_308 {M : MM} (h : M.1 = RX11 := by rfl) : cs_ M 308 yX11_isKind mX11_isKind 1 := ⟨by rw [h]; exact Or.inl wd_994, ck_X11_isKind⟩
theorem cl_X11_311 {M : MM} (h : M.1 = RX11 := by rfl) : cs_ M 311 yX5_init mX5_init 4 := ⟨by rw [h]; exact Or.inl wd_998, ck_X5_init⟩
theorem cl_L_141 {M : MM} (h : M.1 = RL := by rfl) : cs_ M 141 yX11_tells mX11_tells 2 := ⟨by rw [h]; exact Or.inl wd_1015, ck_X11_tells⟩
theorem cl_X11_313 {M : MM} (h : M.1 = RX11 := by rfl) : cs_ M 313 yX11_hasMove mX11_hasMove 1 := ⟨by rw [h]; exact Or.inl wd_1019, ck_X11_hasMove⟩
theorem cl_X11_316 {M : MM} (h : M.1 = RX11 := by rfl) : cs_ M 316 yX5_number mX5_number 1 := ⟨by rw [h]; exact Or.inl wd_1023, ck_X5_number⟩
theorem cl_X11_319 {M : MM} (h : M.1 = RX11 := by rfl) : cs_ M 319 yX5_growth mX5_growth 1 := ⟨by rw [h]; exact Or.inl wd_1027, ck_X5_growth⟩
theorem cl_X5_28 {M : MM} (h : M.1 = RX5 := by rfl) : cs_ M 28 yX5_twistGrowth mX5_twistGrowth 1 := ⟨by rw [h]; exact Or.inl wd_1031, ck_X5_twistGrowth⟩
theorem cl_X5_32 {M : MM} (h : M.1 = RX5 := by rfl) : cs_ M 32 yX6_add mX6_add 1 := ⟨by rw [h]; exact Or.inl wd_1034, ck_X6_add⟩
theorem cl_L_145 {M : MM} (h : M.1 = RL := by rfl) : cs_ M 145 yX11_as mX11_as 2 := ⟨by rw [h]; exact Or.inl wd_1035, ck_X11_as⟩
theorem cl_X11_323 {M : MM} (h : M.1 = RX11 := by rfl) : cs_ M 323 yX5_isA mX5_isA 1 := ⟨by rw [h]; exact Or.inl wd_1039, ck_X5_isA⟩
theorem cl_L_149 {M : MM} (h : M.1 = RL := by rfl) : cs_ M 149 yX11_may mX11_may 2 := ⟨by rw [h]; exact Or.inl wd_1045, ck_X11_may⟩
theorem cl_X11_336 {M : MM} (h : M.1 = RX11 := by rfl) : cs_ M 336 yX11_tryMove mX11_tryMove 2 := ⟨by rw [h]; exact Or.inl wd_1049, ck_X11_tryMove⟩
theorem cl_X11_326 {M : MM} (h : M.1 = RX11 := by rfl) : cs_ M 326 yX5_applyTo mX5_applyTo 2 := ⟨by rw [h]; exact Or.inl wd_1053, ck_X5_applyTo⟩
theorem cl_X5_38 {M : MM} (h : M.1 = RX5 := by rfl) : cs_ M 38 yX5_twist mX5_twist 2 := ⟨by rw [h]; exact Or.inl wd_1057, ck_X5_twist⟩
theorem cl_X5_85 {M : MM} (h : M.1 = RX5 := by rfl) : cs_ M 85 yX4_hasEnd mX4_hasEnd 1 := ⟨by rw [h]; exact Or.inl wd_1061, ck_X4_hasEnd⟩
theorem cl_X5_93 {M : MM} (h : M.1 = RX5 := by rfl) : cs_ M 93 yX7_freeArc mX7_freeArc 1 := ⟨by rw [h]; exact Or.inl wd_1062, ck_X7_freeArc⟩
theorem cl_X5_97 {M : MM} (h : M.1 = RX5 := by rfl) : cs_ M 97 yX5_addKink mX5_addKink 4 := ⟨by rw [h]; exact Or.inl wd_1063, ck_X5_addKink⟩
theorem cl_X5_107 {M : MM} (h : M.1 = RX5 := by rfl) : cs_ M 107 yX7_add mX7_add 4 := ⟨by rw [h]; exact Or.inl wd_1067, ck_X7_add⟩
theorem cl_X5_42 {M : MM} (h : M.1 = RX5 := by rfl) : cs_ M 42 yX5_poke mX5_poke 2 := ⟨by rw [h]; exact Or.inl wd_1068, ck_X5_poke⟩
theorem cl_X5_45 {M : MM} (h : M.1 = RX5 := by rfl) : cs_ M 45 yX5_slide mX5_slide 3 := ⟨by rw [h]; exact Or.inl wd_1072, ck_X5_slide⟩
theorem cl_X5_77 {M : MM} (h : M.1 = RX5 := by rfl) : cs_ M 77 yX5_isTriangle mX5_isTriangle 2 := ⟨by rw [h]; exact Or.inl wd_1075, ck_X5_isTriangle⟩
theorem cl_X5_124 {M : MM} (h : M.1 = RX5 := by rfl) : cs_ M 124 yX4_nextInRegion mX4_nextInRegion 1 := ⟨by rw [h]; exact Or.inl wd_1078, ck_X4_nextInRegion⟩
theorem cl_X5_135 {M : MM} (h : M.1 = RX5 := by rfl) : cs_ M 135 yX5_isOver mX5_isOver 2 := ⟨by rw [h]; exact Or.inl wd_1082, ck_X5_isOver⟩
theorem cl_X5_66 {M : MM} (h : M.1 = RX5 := by rfl) : cs_ M 66 yX11_corner mX11_corner 2 := ⟨by rw [h]; exact Or.inr ⟨_, wd_1085⟩, ck_X11_corner⟩
theorem cl_X5_138 {M : MM} (h : M.1 = RX5 := by rfl) : cs_ M 138 yX5_slideArc mX5_slideArc 5 := ⟨by rw [h]; exact Or.inl wd_1086, ck_X5_slideArc⟩
theorem cl_X5_49 {M : MM} (h : M.1 = RX5 := by rfl) : cs_ M 49 yX5_flype mX5_flype 3 := ⟨by rw [h]; exact Or.inl wd_1089, ck_X5_flype⟩
theorem cl_X5_147 {M : MM} (h : M.1 = RX5 := by rfl) : cs_ M 147 yX5_areThere mX5_areThere 2 := ⟨by rw [h]; exact Or.inl wd_1093, ck_X5_areThere⟩
theorem cl_X5_143 {M : MM} (h : M.1 = RX5 := by rfl) : cs_ M 143 yX5_isIn mX5_isIn 2 := ⟨by rw [h]; exact Or.inl wd_1096, ck_X5_isIn⟩
theorem cl_X5_150 {M : MM} (h : M.1 = RX5 := by rfl) : cs_ M 150 yX5_countWaysOut mX5_countWaysOut 2 := ⟨by rw [h]; exact Or.inl wd_1099, ck_X5_countWaysOut⟩
theorem cl_X5_154 {M : MM} (h : M.1 = RX5 := by rfl) : cs_ M 154 yX5_wayOut mX5_wayOut 4 := ⟨by rw [h]; exact Or.inl wd_1102, ck_X5_wayOut⟩
theorem cl_X5_158 {M : MM} (h : M.1 = RX5 := by rfl) : cs_ M 158 yX5_passOver mX5_passOver 6 := ⟨by rw [h]; exact Or.inl wd_1105, ck_X5_passOver⟩
theorem cl_X5_162 {M : MM} (h : M.1 = RX5 := by rfl) : cs_ M 162 yX7_flip mX7_flip 1 := ⟨by rw [h]; exact Or.inl wd_1108, ck_X7_flip⟩
theorem cl_X5_52 {M : MM} (h : M.1 = RX5 := by rfl) : cs_ M 52 yX5_smooth mX5_smooth 1 := ⟨by rw [h]; exact Or.inl wd_1109, ck_X5_smooth⟩
theorem cl_X5_165 {M : MM} (h : M.1 = RX5 := by rfl) : cs_ M 165 yX7_hasCrossing mX7_hasCrossing 1 := ⟨by rw [h]; exact Or.inl wd_1113, ck_X7_hasCrossing⟩
theorem cl_X5_113 {M : MM} (h : M.1 = RX5 := by rfl) : cs_ M 113 yX7_fuse mX7_fuse 2 := ⟨by rw [h]; exact Or.inl wd_1114, ck_X7_fuse⟩
theorem cl_X5_117 {M : MM} (h : M.1 = RX5 := by rfl) : cs_ M 117 yX7_remove mX7_remove 1 := ⟨by rw [h]; exact Or.inl wd_1118, ck_X7_remove⟩
theorem cl_X5_121 {M : MM} (h : M.1 = RX5 := by rfl) : cs_ M 121 yX5_loopsAnswer mX5_loopsAnswer 1 := ⟨by rw [h]; exact Or.inl wd_1122, ck_X5_loopsAnswer⟩
theorem cl_X5_56 {M : MM} (h : M.1 = RX5 := by rfl) : cs_ M 56 yX5_change mX5_change 2 := ⟨by rw [h]; exact Or.inl wd_1125, ck_X5_change⟩
theorem cl_X5_168 {M : MM} (h : M.1 = RX5 := by rfl) : cs_ M 168 yX7_rotate mX7_rotate 2 := ⟨by rw [h]; exact Or.inl wd_1129, ck_X7_rotate⟩
theorem cl_L_153 {M : MM} (h : M.1 = RL := by rfl) : cs_ M 153 yX11_does mX11_does 2 := ⟨by rw [h]; exact Or.inl wd_1130, ck_X11_does⟩
theorem cl_X11_339 {M : MM} (h : M.1 = RX11 := by rfl) : cs_ M 339 yX11_settle mX11_settle 2 := ⟨by rw [h]; exact Or.inl wd_1134, ck_X11_settle⟩
theorem cl_L_157 {M : MM} (h : M.1 = RL := by rfl) : cs_ M 157 yX11_undoes mX11_undoes 2 := ⟨by rw [h]; exact Or.inl wd_1138, ck_X11_undoes⟩
theorem cl_X11_342 {M : MM} (h : M.1 = RX11 := by rfl) : cs_ M 342 yX11_tryUndoing mX11_tryUndoing 2 := ⟨by rw [h]; exact Or.inl wd_1142, ck_X11_tryUndoing⟩
theorem cl_X11_330 {M : MM} (h : M.1 = RX11 := by rfl) : cs_ M 330 yX5_canBeUndone mX5_canBeUndone 0 := ⟨by rw [h]; exact Or.inl wd_1146, ck_X5_canBeUndone⟩
theorem cl_X11_333 {M : MM} (h : M.1 = RX11 := by rfl) : cs_ M 333 yX5_withdrawFrom mX5_withdrawFrom 2 := ⟨by rw [h]; exact Or.inl wd_1150, ck_X5_withdrawFrom⟩
theorem cl_X5_60 {M : MM} (h : M.1 = RX5 := by rfl) : cs_ M 60 yX5_untwist mX5_untwist 3 := ⟨by rw [h]; exact Or.inl wd_1154, ck_X5_untwist⟩
theorem cl_X5_70 {M : MM} (h : M.1 = RX5 := by rfl) : cs_ M 70 yX5_isKink mX5_isKink 2 := ⟨by rw [h]; exact Or.inl wd_1157, ck_X5_isKink⟩
theorem cl_X5_63 {M : MM} (h : M.1 = RX5 := by rfl) : cs_ M 63 yX5_unpoke mX5_unpoke 3 := ⟨by rw [h]; exact Or.inl wd_1160, ck_X5_unpoke⟩
theorem cl_X5_74 {M : MM} (h : M.1 = RX5 := by rfl) : cs_ M 74 yX5_isLens mX5_isLens 2 := ⟨by rw [h]; exact Or.inl wd_1163, ck_X5_isLens⟩
theorem cl_X5_127 {M : MM} (h : M.1 = RX5 := by rfl) : cs_ M 127 yJ9_max_7cf53 mJ9_max_7cf53 2 := ⟨by rw [h]; exact Or.inl wd_1166, ck_J9_max_7cf53⟩
theorem cl_X5_132 {M : MM} (h : M.1 = RX5 := by rfl) : cs_ M 132 yJ9_min_7cf53 mJ9_min_7cf53 2 := ⟨by rw [h]; exact Or.inl wd_1167, ck_J9_min_7cf53⟩
theorem cl_L_161 {M : MM} (h : M.1 = RL := by rfl) : cs_ M 161 yX11_trace mX11_trace 1 := ⟨by rw [h]; exact Or.inl wd_1168, ck_X11_trace⟩
theorem cl_L_165 {M : MM} (h : M.1 = RL := by rfl) : cs_ M 165 yX11_like mX11_like 2 := ⟨by rw [h]; exact Or.inl wd_1172, ck_X11_like⟩
theorem cl_X11_349 {M : MM} (h : M.1 = RX11 := by rfl) : cs_ M 349 yX3_holds mX3_holds 3 := ⟨by rw [h]; exact Or.inl wd_1176, ck_X3_holds⟩
theorem cl_X3_21 {M : MM} (h : M.1 = RX3 := by rfl) : cs_ M 21 yJ7_fill_53178 mJ7_fill_53178 2 := ⟨by rw [h]; exact Or.inl wd_1180, ck_J7_fill_53178⟩
theorem cl_X3_27 {M : MM} (h : M.1 = RX3 := by rfl) : cs_ M 27 yX3_findsPart mX3_findsPart 4 := ⟨by rw [h]; exact Or.inl wd_1181, ck_X3_findsPart⟩
theorem cl_X3_35 {M : MM} (h : M.1 = RX3 := by rfl) : cs_ M 35 yX3_assign mX3_assign 2 := ⟨by rw [h]; exact Or.inl wd_1185, ck_X3_assign⟩
theorem cl_X3_39 {M : MM} (h : M.1 = RX3 := by rfl) : cs_ M 39 yX3_spreads mX3_spreads 2 := ⟨by rw [h]; exact Or.inl wd_1189, ck_X3_spreads⟩
theorem cl_X3_46 {M : MM} (h : M.1 = RX3 := by rfl) : cs_ M 46 yX11_corner mX11_corner 2 := ⟨by rw [h]; exact Or.inr ⟨_, wd_1193⟩, ck_X11_corner⟩
theorem cl_X3_43 {M : MM} (h : M.1 = RX3 := by rfl) : cs_ M 43 yX3_withdraw mX3_withdraw 0 := ⟨by rw [h]; exact Or.inl wd_1194, ck_X3_withdraw⟩
theorem cl_L_169 {M : MM} (h : M.1 = RL := by rfl) : cs_ M 169 yX11_search mX11_search 2 := ⟨by rw [h]; exact Or.inl wd_1198, ck_X11_search⟩
theorem cl_X11_355 {M : MM} (h : M.1 = RX11 := by rfl) : cs_ M 355 yX11_isStepCount mX11_isStepCount 1 := ⟨by rw [h]; exact Or.inl wd_1202, ck_X11_isStepCount⟩
theorem cl_X11_358 {M : MM} (h : M.1 = RX11 := by rfl) : cs_ M 358 yX8_begin mX8_begin 1 := ⟨by rw [h]; exact Or.inl wd_1205, ck_X8_begin⟩
theorem cl_X8_78 {M : MM} (h : M.1 = RX8 := by rfl) : cs_ M 78 yX7_take mX7_take 1 := ⟨by rw [h]; exact Or.inl wd_1209, ck_X7_take⟩
theorem cl_X8_82 {M : MM} (h : M.1 = RX8 := by rfl) : cs_ M 82 yX8_keep mX8_keep 2 := ⟨by rw [h]; exact Or.inl wd_1210, ck_X8_keep⟩
theorem cl_X8_92 {M : MM} (h : M.1 = RX8 := by rfl) : cs_ M 92 yX4_pairUp mX4_pairUp 1 := ⟨by rw [h]; exact Or.inl wd_1214, ck_X4_pairUp⟩
theorem cl_X8_95 {M : MM} (h : M.1 = RX8 := by rfl) : cs_ M 95 yX4_findRegions mX4_findRegions 0 := ⟨by rw [h]; exact Or.inl wd_1215, ck_X4_findRegions⟩
theorem cl_X8_98 {M : MM} (h : M.1 = RX8 := by rfl) : cs_ M 98 yX10_hold mX10_hold 2 := ⟨by rw [h]; exact Or.inl wd_1216, ck_X10_hold⟩
theorem cl_X10_24 {M : MM} (h : M.1 = RX10 := by rfl) : cs_ M 24 yJ9_min_7cf53 mJ9_min_7cf53 2 := ⟨by rw [h]; exact Or.inl wd_1220, ck_J9_min_7cf53⟩
theorem cl_X10_35 {M : MM} (h : M.1 = RX10 := by rfl) : cs_ M 35 yX4_likenessMark mX4_likenessMark 0 := ⟨by rw [h]; exact Or.inl wd_1221, ck_X4_likenessMark⟩
theorem cl_X8_102 {M : MM} (h : M.1 = RX8 := by rfl) : cs_ M 102 yX10_sharesMark mX10_sharesMark 1 := ⟨by rw [h]; exact Or.inl wd_1226, ck_X10_sharesMark⟩
theorem cl_X8_111 {M : MM} (h : M.1 = RX8 := by rfl) : cs_ M 111 yX3_holds mX3_holds 3 := ⟨by rw [h]; exact Or.inl wd_1230, ck_X3_holds⟩
theorem cl_X8_86 {M : MM} (h : M.1 = RX8 := by rfl) : cs_ M 86 yX8_enter mX8_enter 1 := ⟨by rw [h]; exact Or.inl wd_1231, ck_X8_enter⟩
theorem cl_X8_138 {M : MM} (h : M.1 = RX8 := by rfl) : cs_ M 138 yX10_pourInto mX10_pourInto 1 := ⟨by rw [h]; exact Or.inl wd_1235, ck_X10_pourInto⟩
theorem cl_X10_54 {M : MM} (h : M.1 = RX10 := by rfl) : cs_ M 54 yX7_empty mX7_empty 0 := ⟨by rw [h]; exact Or.inl wd_1239, ck_X7_empty⟩
theorem cl_X10_57 {M : MM} (h : M.1 = RX10 := by rfl) : cs_ M 57 yX7_add mX7_add 4 := ⟨by rw [h]; exact Or.inl wd_1240, ck_X7_add⟩
theorem cl_X11_361 {M : MM} (h : M.1 = RX11 := by rfl) : cs_ M 361 yX8_go mX8_go 1 := ⟨by rw [h]; exact Or.inl wd_1241, ck_X8_go⟩
theorem cl_X8_121 {M : MM} (h : M.1 = RX8 := by rfl) : cs_ M 121 yX8_enterNext mX8_enterNext 0 := ⟨by rw [h]; exact Or.inl wd_1245, ck_X8_enterNext⟩
theorem cl_X8_125 {M : MM} (h : M.1 = RX8 := by rfl) : cs_ M 125 yX5_seemsOpen mX5_seemsOpen 2 := ⟨by rw [h]; exact Or.inl wd_1249, ck_X5_seemsOpen⟩
theorem cl_X8_131 {M : MM} (h : M.1 = RX8 := by rfl) : cs_ M 131 yX5_takeStep mX5_takeStep 3 := ⟨by rw [h]; exact Or.inl wd_1252, ck_X5_takeStep⟩
theorem cl_L_173 {M : MM} (h : M.1 = RL := by rfl) : cs_ M 173 yX11_goOn mX11_goOn 1 := ⟨by rw [h]; exact Or.inl wd_1255, ck_X11_goOn⟩
theorem cl_L_177 {M : MM} (h : M.1 = RL := by rfl) : cs_ M 177 yX11_searched mX11_searched 1 := ⟨by rw [h]; exact Or.inl wd_1259, ck_X11_searched⟩
theorem cl_X11_377 {M : MM} (h : M.1 = RX11 := by rfl) : cs_ M 377 yX8_smallest mX8_smallest 0 := ⟨by rw [h]; exact Or.inl wd_1263, ck_X8_smallest⟩
theorem cl_L_181 {M : MM} (h : M.1 = RL := by rfl) : cs_ M 181 yX11_fewer mX11_fewer 0 := ⟨by rw [h]; exact Or.inl wd_1267, ck_X11_fewer⟩
theorem cl_X11_386 {M : MM} (h : M.1 = RX11 := by rfl) : cs_ M 386 yX8_tellWays mX8_tellWays 1 := ⟨by rw [h]; exact Or.inl wd_1271, ck_X8_tellWays⟩
theorem cl_X8_147 {M : MM} (h : M.1 = RX8 := by rfl) : cs_ M 147 yX6_empty mX6_empty 0 := ⟨by rw [h]; exact Or.inl wd_1275, ck_X6_empty⟩
theorem cl_X8_150 {M : MM} (h : M.1 = RX8 := by rfl) : cs_ M 150 yX6_add mX6_add 1 := ⟨by rw [h]; exact Or.inl wd_1276, ck_X6_add⟩
theorem cl_X8_154 {M : MM} (h : M.1 = RX8 := by rfl) : cs_ M 154 yX6_reverse mX6_reverse 0 := ⟨by rw [h]; exact Or.inl wd_1277, ck_X6_reverse⟩
theorem cl_X11_389 {M : MM} (h : M.1 = RX11 := by rfl) : cs_ M 389 yX10_pourInto mX10_pourInto 1 := ⟨by rw [h]; exact Or.inl wd_1281, ck_X10_pourInto⟩
theorem cl_L_185 {M : MM} (h : M.1 = RL := by rfl) : cs_ M 185 yX11_same mX11_same 3 := ⟨by rw [h]; exact Or.inl wd_1282, ck_X11_same⟩
theorem cl_X11_396 {M : MM} (h : M.1 = RX11 := by rfl) : cs_ M 396 yX11_partingNumber mX11_partingNumber 0 := ⟨by rw [h]; exact Or.inl wd_1286, ck_X11_partingNumber⟩
theorem cl_X11_392 {M : MM} (h : M.1 = RX11 := by rfl) : cs_ M 392 yX2_isAs mX2_isAs 1 := ⟨by rw [h]; exact Or.inl wd_1290, ck_X2_isAs⟩
theorem cl_X11_402 {M : MM} (h : M.1 = RX11 := by rfl) : cs_ M 402 yX8_aimAt mX8_aimAt 1 := ⟨by rw [h]; exact Or.inl wd_1294, ck_X8_aimAt⟩
theorem cl_X11_405 {M : MM} (h : M.1 = RX11 := by rfl) : cs_ M 405 yX8_takeAim mX8_takeAim 0 := ⟨by rw [h]; exact Or.inl wd_1298, ck_X8_takeAim⟩
theorem cl_X8_115 {M : MM} (h : M.1 = RX8 := by rfl) : cs_ M 115 yX8_tellWays mX8_tellWays 1 := ⟨by rw [h]; exact Or.inl wd_1302, ck_X8_tellWays⟩
theorem cl_L_189 {M : MM} (h : M.1 = RL := by rfl) : cs_ M 189 yX11_parted mX11_parted 0 := ⟨by rw [h]; exact Or.inl wd_1303, ck_X11_parted⟩
theorem cl_L_193 {M : MM} (h : M.1 = RL := by rfl) : cs_ M 193 yX11_way mX11_way 1 := ⟨by rw [h]; exact Or.inl wd_1307, ck_X11_way⟩
theorem cl_L_197 {M : MM} (h : M.1 = RL := by rfl) : cs_ M 197 yX11_check mX11_check 1 := ⟨by rw [h]; exact Or.inl wd_1311, ck_X11_check⟩
theorem cl_X11_418 {M : MM} (h : M.1 = RX11 := by rfl) : cs_ M 418 yX11_goWays mX11_goWays 0 := ⟨by rw [h]; exact Or.inl wd_1315, ck_X11_goWays⟩
theorem cl_X11_411 {M : MM} (h : M.1 = RX11 := by rfl) : cs_ M 411 yX4_pairUp mX4_pairUp 1 := ⟨by rw [h]; exact Or.inl wd_1319, ck_X4_pairUp⟩
theorem cl_X11_414 {M : MM} (h : M.1 = RX11 := by rfl) : cs_ M 414 yX5_takeStep mX5_takeStep 3 := ⟨by rw [h]; exact Or.inl wd_1320, ck_X5_takeStep⟩
theorem cl_L_203 {M : MM} (h : M.1 = RL := by rfl) : cs_ M 203 yX11_book mX11_book 2 := ⟨by rw [h]; exact Or.inl wd_1321, ck_X11_book⟩
theorem cl_X11_422 {M : MM} (h : M.1 = RX11 := by rfl) : cs_ M 422 yX0_has mX0_has 1 := ⟨by rw [h]; exact Or.inl wd_1325, ck_X0_has⟩
theorem cl_X11_425 {M : MM} (h : M.1 = RX11 := by rfl) : cs_ M 425 yX0_add mX0_add 2 := ⟨by rw [h]; exact Or.inl wd_1329, ck_X0_add⟩
theorem cl_X0_25 {M : MM} (h : M.1 = RX0 := by rfl) : cs_ M 25 yX2_init mX2_init 0 := ⟨by rw [h]; exact Or.inr ⟨_, wd_1333⟩, ck_X2_init⟩
theorem cl_X0_26 {M : MM} (h : M.1 = RX0 := by rfl) : cs_ M 26 yX2_take mX2_take 1 := ⟨by rw [h]; exact Or.inl wd_1334, ck_X2_take⟩
theorem cl_L_208 {M : MM} (h : M.1 = RL := by rfl) : cs_ M 208 yX11_name mX11_name 1 := ⟨by rw [h]; exact Or.inl wd_1339, ck_X11_name⟩
theorem cl_X11_428 {M : MM} (h : M.1 = RX11 := by rfl) : cs_ M 428 yX0_firstFor mX0_firstFor 1 := ⟨by rw [h]; exact Or.inl wd_1343, ck_X0_firstFor⟩
theorem cl_X0_30 {M : MM} (h : M.1 = RX0 := by rfl) : cs_ M 30 yX2_isAs mX2_isAs 1 := ⟨by rw [h]; exact Or.inl wd_1347, ck_X2_isAs⟩
theorem cl_L_212 {M : MM} (h : M.1 = RL := by rfl) : cs_ M 212 yX11_count mX11_count 1 := ⟨by rw [h]; exact Or.inl wd_1348, ck_X11_count⟩
theorem cl_L_216 {M : MM} (h : M.1 = RL := by rfl) : cs_ M 216 yX11_findings mX11_findings 1 := ⟨by rw [h]; exact Or.inl wd_1352, ck_X11_findings⟩
theorem cl_L_220 {M : MM} (h : M.1 = RL := by rfl) : cs_ M 220 yX11_status mX11_status 0 := ⟨by rw [h]; exact Or.inl wd_1356, ck_X11_status⟩
theorem cl_L_224 {M : MM} (h : M.1 = RL := by rfl) : cs_ M 224 yX11_digest mX11_digest 0 := ⟨by rw [h]; exact Or.inl wd_1360, ck_X11_digest⟩
theorem cl_X11_437 {M : MM} (h : M.1 = RX11 := by rfl) : cs_ M 437 yX7_mixInto mX7_mixInto 1 := ⟨by rw [h]; exact Or.inl wd_1365, ck_X7_mixInto⟩
theorem cl_L_12 {M : MM} (h : M.1 = RL := by rfl) : cs_ M 12 yX12_init mX12_init 0 := ⟨by rw [h]; exact Or.inl wd_1372, ck_X12_init⟩
theorem cl_L_17 {M : MM} (h : M.1 = RL := by rfl) : cs_ M 17 yX12_picture mX12_picture 0 := ⟨by rw [h]; exact Or.inl wd_1575, ck_X12_picture⟩
theorem cl_X12_165 {M : MM} (h : M.1 = RX12 := by rfl) : cs_ M 165 yX12_no mX12_no 1 := ⟨by rw [h]; exact Or.inl wd_1579, ck_X12_no⟩
theorem cl_X12_180 {M : MM} (h : M.1 = RX12 := by rfl) : cs_ M 180 yX12_well mX12_well 1 := ⟨by rw [h]; exact Or.inl wd_1583, ck_X12_well⟩
theorem cl_L_22 {M : MM} (h : M.1 = RL := by rfl) : cs_ M 22 yX12_crossing mX12_crossing 5 := ⟨by rw [h]; exact Or.inl wd_1587, ck_X12_crossing⟩
theorem cl_X12_187 {M : MM} (h : M.1 = RX12 := by rfl) : cs_ M 187 yX12_isPicture mX12_isPicture 1 := ⟨by rw [h]; exact Or.inl wd_1591, ck_X12_isPicture⟩
theorem cl_X12_172 {M : MM} (h : M.1 = RX12 := by rfl) : cs_ M 172 yX12_in mX12_in 3 := ⟨by rw [h]; exact Or.inl wd_1595, ck_X12_in⟩
theorem cl_X12_191 {M : MM} (h : M.1 = RX12 := by rfl) : cs_ M 191 yX12_isArc mX12_isArc 1 := ⟨by rw [h]; exact Or.inl wd_1598, ck_X12_isArc⟩
theorem cl_X12_194 {M : MM} (h : M.1 = RX12 := by rfl) : cs_ M 194 yX12_append mX12_append 5 := ⟨by rw [h]; exact Or.inl wd_1603, ck_X12_append⟩
theorem cl_L_27 {M : MM} (h : M.1 = RL := by rfl) : cs_ M 27 yX12_row mX12_row 3 := ⟨by rw [h]; exact Or.inl wd_1607, ck_X12_row⟩
theorem cl_X12_200 {M : MM} (h : M.1 = RX12 := by rfl) : cs_ M 200 yX12_meets mX12_meets 1 := ⟨by rw [h]; exact Or.inl wd_1612, ck_X12_meets⟩
theorem cl_L_31 {M : MM} (h : M.1 = RL := by rfl) : cs_ M 31 yX12_end mX12_end 3 := ⟨by rw [h]; exact Or.inl wd_1616, ck_X12_end⟩
theorem cl_X12_203 {M : MM} (h : M.1 = RX12 := by rfl) : cs_ M 203 yX12_lacks mX12_lacks 3 := ⟨by rw [h]; exact Or.inl wd_1620, ck_X12_lacks⟩
theorem cl_L_36 {M : MM} (h : M.1 = RL := by rfl) : cs_ M 36 yX12_put mX12_put 4 := ⟨by rw [h]; exact Or.inl wd_1624, ck_X12_put⟩
theorem cl_L_41 {M : MM} (h : M.1 = RL := by rfl) : cs_ M 41 yX12_copy mX12_copy 7 := ⟨by rw [h]; exact Or.inl wd_1628, ck_X12_copy⟩
theorem cl_L_46 {M : MM} (h : M.1 = RL := by rfl) : cs_ M 46 yX12_loose mX12_loose 2 := ⟨by rw [h]; exact Or.inl wd_1632, ck_X12_loose⟩
theorem cl_L_51 {M : MM} (h : M.1 = RL := by rfl) : cs_ M 51 yX12_open mX12_open 1 := ⟨by rw [h]; exact Or.inl wd_1637, ck_X12_open⟩
theorem cl_X12_226 {M : MM} (h : M.1 = RX12 := by rfl) : cs_ M 226 yX12_openOf mX12_openOf 1 := ⟨by rw [h]; exact Or.inl wd_1641, ck_X12_openOf⟩
theorem cl_X12_216 {M : MM} (h : M.1 = RX12 := by rfl) : cs_ M 216 yX12_link mX12_link 1 := ⟨by rw [h]; exact Or.inl wd_1645, ck_X12_link⟩
theorem cl_X12_220 {M : MM} (h : M.1 = RX12 := by rfl) : cs_ M 220 yX12_facesOf mX12_facesOf 1 := ⟨by rw [h]; exact Or.inl wd_1649, ck_X12_facesOf⟩
theorem cl_X12_213 {M : MM} (h : M.1 = RX12 := by rfl) : cs_ M 213 yX12_nextOfFace mX12_nextOfFace 1 := ⟨by rw [h]; exact Or.inl wd_1653, ck_X12_nextOfFace⟩
theorem cl_X12_209 {M : MM} (h : M.1 = RX12 := by rfl) : cs_ M 209 yX12_turned mX12_turned 2 := ⟨by rw [h]; exact Or.inl wd_1657, ck_X12_turned⟩
theorem cl_X12_223 {M : MM} (h : M.1 = RX12 := by rfl) : cs_ M 223 yX12_partsOf mX12_partsOf 1 := ⟨by rw [h]; exact Or.inl wd_1660, ck_X12_partsOf⟩
theorem cl_L_55 {M : MM} (h : M.1 = RL := by rfl) : cs_ M 55 yX12_where mX12_where 0 := ⟨by rw [h]; exact Or.inl wd_1664, ck_X12_where⟩
theorem cl_L_59 {M : MM} (h : M.1 = RL := by rfl) : cs_ M 59 yX12_told mX12_told 2 := ⟨by rw [h]; exact Or.inl wd_1668, ck_X12_told⟩
theorem cl_X12_237 {M : MM} (h : M.1 = RX12 := by rfl) : cs_ M 237 yX12_refusal mX12_refusal 1 := ⟨by rw [h]; exact Or.inl wd_1673, ck_X12_refusal⟩
theorem cl_X12_229 {M : MM} (h : M.1 = RX12 := by rfl) : cs_ M 229 yX12_piecesOf mX12_piecesOf 1 := ⟨by rw [h]; exact Or.inl wd_1677, ck_X12_piecesOf⟩
theorem cl_X12_240 {M : MM} (h : M.1 = RX12 := by rfl) : cs_ M 240 yX12_writheOf mX12_writheOf 1 := ⟨by rw [h]; exact Or.inl wd_1681, ck_X12_writheOf⟩
theorem cl_X12_232 {M : MM} (h : M.1 = RX12 := by rfl) : cs_ M 232 yX12_signAt mX12_signAt 1 := ⟨by rw [h]; exact Or.inl wd_1685, ck_X12_signAt⟩
theorem cl_L_83 {M : MM} (h : M.1 = RL := by rfl) : cs_ M 83 yX12_sign mX12_sign 2 := ⟨by rw [h]; exact Or.inl wd_1689, ck_X12_sign⟩
theorem cl_L_87 {M : MM} (h : M.1 = RL := by rfl) : cs_ M 87 yX12_pieceOf mX12_pieceOf 2 := ⟨by rw [h]; exact Or.inl wd_1693, ck_X12_pieceOf⟩
theorem cl_L_91 {M : MM} (h : M.1 = RL := by rfl) : cs_ M 91 yX12_linking mX12_linking 3 := ⟨by rw [h]; exact Or.inl wd_1697, ck_X12_linking⟩
theorem cl_L_95 {M : MM} (h : M.1 = RL := by rfl) : cs_ M 95 yX12_colours mX12_colours 2 := ⟨by rw [h]; exact Or.inl wd_1701, ck_X12_colours⟩
theorem cl_X12_247 {M : MM} (h : M.1 = RX12 := by rfl) : cs_ M 247 yX12_coloursOf mX12_coloursOf 2 := ⟨by rw [h]; exact Or.inl wd_1705, ck_X12_coloursOf⟩
theorem cl_X12_243 {M : MM} (h : M.1 = RX12 := by rfl) : cs_ M 243 yX12_clears mX12_clears 6 := ⟨by rw [h]; exact Or.inl wd_1709, ck_X12_clears⟩
theorem cl_L_99 {M : MM} (h : M.1 = RL := by rfl) : cs_ M 99 yX12_bracket mX12_bracket 1 := ⟨by rw [h]; exact Or.inl wd_1712, ck_X12_bracket⟩
theorem cl_X12_267 {M : MM} (h : M.1 = RX12 := by rfl) : cs_ M 267 yX12_spends mX12_spends 2 := ⟨by rw [h]; exact Or.inl wd_1716, ck_X12_spends⟩
theorem cl_X12_259 {M : MM} (h : M.1 = RX12 := by rfl) : cs_ M 259 yX12_bracketOf mX12_bracketOf 1 := ⟨by rw [h]; exact Or.inl wd_1721, ck_X12_bracketOf⟩
theorem cl_X12_253 {M : MM} (h : M.1 = RX12 := by rfl) : cs_ M 253 yX12_circlesOf mX12_circlesOf 2 := ⟨by rw [h]; exact Or.inl wd_1725, ck_X12_circlesOf⟩
theorem cl_X12_256 {M : MM} (h : M.1 = RX12 := by rfl) : cs_ M 256 yX12_timesCircle mX12_timesCircle 0 := ⟨by rw [h]; exact Or.inl wd_1729, ck_X12_timesCircle⟩
theorem cl_X12_270 {M : MM} (h : M.1 = RX12 := by rfl) : cs_ M 270 yX12_shown mX12_shown 0 := ⟨by rw [h]; exact Or.inl wd_1733, ck_X12_shown⟩
theorem cl_L_103 {M : MM} (h : M.1 = RL := by rfl) : cs_ M 103 yX12_polynomial mX12_polynomial 1 := ⟨by rw [h]; exact Or.inl wd_1737, ck_X12_polynomial⟩
theorem cl_X12_274 {M : MM} (h : M.1 = RX12 := by rfl) : cs_ M 274 yX12_polynomialOf mX12_polynomialOf 1 := ⟨by rw [h]; exact Or.inl wd_1741, ck_X12_polynomialOf⟩
theorem cl_L_108 {M : MM} (h : M.1 = RL := by rfl) : cs_ M 108 yX12_at mX12_at 1 := ⟨by rw [h]; exact Or.inl wd_1745, ck_X12_at⟩
theorem cl_L_112 {M : MM} (h : M.1 = RL := by rfl) : cs_ M 112 yX12_power mX12_power 1 := ⟨by rw [h]; exact Or.inl wd_1751, ck_X12_power⟩
theorem cl_L_116 {M : MM} (h : M.1 = RL := by rfl) : cs_ M 116 yX12_determinant mX12_determinant 1 := ⟨by rw [h]; exact Or.inl wd_1755, ck_X12_determinant⟩
theorem cl_L_120 {M : MM} (h : M.1 = RL := by rfl) : cs_ M 120 yX12_gauss mX12_gauss 1 := ⟨by rw [h]; exact Or.inl wd_1759, ck_X12_gauss⟩
theorem cl_L_124 {M : MM} (h : M.1 = RL := by rfl) : cs_ M 124 yX12_type mX12_type 1 := ⟨by rw [h]; exact Or.inl wd_1763, ck_X12_type⟩
theorem cl_L_128 {M : MM} (h : M.1 = RL := by rfl) : cs_ M 128 yX12_clear mX12_clear 0 := ⟨by rw [h]; exact Or.inl wd_1767, ck_X12_clear⟩
theorem cl_L_132 {M : MM} (h : M.1 = RL := by rfl) : cs_ M 132 yX12_item mX12_item 1 := ⟨by rw [h]; exact Or.inl wd_1771, ck_X12_item⟩
theorem cl_L_136 {M : MM} (h : M.1 = RL := by rfl) : cs_ M 136 yX12_ofGauss mX12_ofGauss 0 := ⟨by rw [h]; exact Or.inl wd_1775, ck_X12_ofGauss⟩
theorem cl_X12_293 {M : MM} (h : M.1 = RX12 := by rfl) : cs_ M 293 yX12_readsGauss mX12_readsGauss 0 := ⟨by rw [h]; exact Or.inl wd_1779, ck_X12_readsGauss⟩
theorem cl_X12_290 {M : MM} (h : M.1 = RX12 := by rfl) : cs_ M 290 yX12_passes mX12_passes 0 := ⟨by rw [h]; exact Or.inl wd_1783, ck_X12_passes⟩
theorem cl_X12_297 {M : MM} (h : M.1 = RX12 := by rfl) : cs_ M 297 yX12_added mX12_added 1 := ⟨by rw [h]; exact Or.inl wd_1790, ck_X12_added⟩
theorem cl_X12_176 {M : MM} (h : M.1 = RX12 := by rfl) : cs_ M 176 yX12_copySlot mX12_copySlot 2 := ⟨by rw [h]; exact Or.inl wd_1794, ck_X12_copySlot⟩
theorem cl_L_140 {M : MM} (h : M.1 = RL := by rfl) : cs_ M 140 yX12_move mX12_move 4 := ⟨by rw [h]; exact Or.inl wd_1798, ck_X12_move⟩
theorem cl_L_144 {M : MM} (h : M.1 = RL := by rfl) : cs_ M 144 yX12_tells mX12_tells 2 := ⟨by rw [h]; exact Or.inl wd_1802, ck_X12_tells⟩
theorem cl_X12_371 {M : MM} (h : M.1 = RX12 := by rfl) : cs_ M 371 yX12_isMove mX12_isMove 1 := ⟨by rw [h]; exact Or.inl wd_1806, ck_X12_isMove⟩
theorem cl_X12_374 {M : MM} (h : M.1 = RX12 := by rfl) : cs_ M 374 yX12_moreOf mX12_moreOf 1 := ⟨by rw [h]; exact Or.inl wd_1810, ck_X12_moreOf⟩
theorem cl_X12_377 {M : MM} (h : M.1 = RX12 := by rfl) : cs_ M 377 yX12_body mX12_body 1 := ⟨by rw [h]; exact Or.inl wd_1814, ck_X12_body⟩
theorem cl_L_164 {M : MM} (h : M.1 = RL := by rfl) : cs_ M 164 yX12_trace mX12_trace 1 := ⟨by rw [h]; exact Or.inl wd_1818, ck_X12_trace⟩
theorem cl_L_148 {M : MM} (h : M.1 = RL := by rfl) : cs_ M 148 yX12_as mX12_as 2 := ⟨by rw [h]; exact Or.inl wd_1822, ck_X12_as⟩
theorem cl_L_152 {M : MM} (h : M.1 = RL := by rfl) : cs_ M 152 yX12_may mX12_may 2 := ⟨by rw [h]; exact Or.inl wd_1826, ck_X12_may⟩
theorem cl_X12_387 {M : MM} (h : M.1 = RX12 := by rfl) : cs_ M 387 yX12_tried mX12_tried 3 := ⟨by rw [h]; exact Or.inl wd_1830, ck_X12_tried⟩
theorem cl_X12_380 {M : MM} (h : M.1 = RX12 := by rfl) : cs_ M 380 yX12_unmoved mX12_unmoved 3 := ⟨by rw [h]; exact Or.inl wd_1834, ck_X12_unmoved⟩
theorem cl_X12_359 {M : MM} (h : M.1 = RX12 := by rfl) : cs_ M 359 yX12_untwist mX12_untwist 1 := ⟨by rw [h]; exact Or.inl wd_1838, ck_X12_untwist⟩
theorem cl_X12_301 {M : MM} (h : M.1 = RX12 := by rfl) : cs_ M 301 yX12_isEnd mX12_isEnd 2 := ⟨by rw [h]; exact Or.inl wd_1842, ck_X12_isEnd⟩
theorem cl_X12_310 {M : MM} (h : M.1 = RX12 := by rfl) : cs_ M 310 yX12_arcAt mX12_arcAt 1 := ⟨by rw [h]; exact Or.inl wd_1846, ck_X12_arcAt⟩
theorem cl_X12_313 {M : MM} (h : M.1 = RX12 := by rfl) : cs_ M 313 yX12_joinArcs mX12_joinArcs 3 := ⟨by rw [h]; exact Or.inl wd_1851, ck_X12_joinArcs⟩
theorem cl_X12_317 {M : MM} (h : M.1 = RX12 := by rfl) : cs_ M 317 yX12_takeOut mX12_takeOut 2 := ⟨by rw [h]; exact Or.inl wd_1855, ck_X12_takeOut⟩
theorem cl_X12_320 {M : MM} (h : M.1 = RX12 := by rfl) : cs_ M 320 yX12_full mX12_full 0 := ⟨by rw [h]; exact Or.inl wd_1859, ck_X12_full⟩
theorem cl_X12_362 {M : MM} (h : M.1 = RX12 := by rfl) : cs_ M 362 yX12_unpoke mX12_unpoke 1 := ⟨by rw [h]; exact Or.inl wd_1863, ck_X12_unpoke⟩
theorem cl_X12_347 {M : MM} (h : M.1 = RX12 := by rfl) : cs_ M 347 yX12_slide mX12_slide 1 := ⟨by rw [h]; exact Or.inl wd_1867, ck_X12_slide⟩
theorem cl_X12_326 {M : MM} (h : M.1 = RX12 := by rfl) : cs_ M 326 yX12_goesOver mX12_goesOver 1 := ⟨by rw [h]; exact Or.inl wd_1871, ck_X12_goesOver⟩
theorem cl_X12_329 {M : MM} (h : M.1 = RX12 := by rfl) : cs_ M 329 yX12_slides mX12_slides 1 := ⟨by rw [h]; exact Or.inl wd_1875, ck_X12_slides⟩
theorem cl_X12_350 {M : MM} (h : M.1 = RX12 := by rfl) : cs_ M 350 yX12_flype mX12_flype 2 := ⟨by rw [h]; exact Or.inl wd_1879, ck_X12_flype⟩
theorem cl_X12_332 {M : MM} (h : M.1 = RX12 := by rfl) : cs_ M 332 yX12_has mX12_has 2 := ⟨by rw [h]; exact Or.inl wd_1883, ck_X12_has⟩
theorem cl_X12_335 {M : MM} (h : M.1 = RX12 := by rfl) : cs_ M 335 yX12_wayOut mX12_wayOut 3 := ⟨by rw [h]; exact Or.inl wd_1886, ck_X12_wayOut⟩
theorem cl_X12_338 {M : MM} (h : M.1 = RX12 := by rfl) : cs_ M 338 yX12_turnOver mX12_turnOver 2 := ⟨by rw [h]; exact Or.inl wd_1890, ck_X12_turnOver⟩
theorem cl_X12_356 {M : MM} (h : M.1 = RX12 := by rfl) : cs_ M 356 yX12_rotate mX12_rotate 3 := ⟨by rw [h]; exact Or.inl wd_1894, ck_X12_rotate⟩
theorem cl_X12_383 {M : MM} (h : M.1 = RX12 := by rfl) : cs_ M 383 yX12_moved mX12_moved 4 := ⟨by rw [h]; exact Or.inl wd_1898, ck_X12_moved⟩
theorem cl_X12_341 {M : MM} (h : M.1 = RX12 := by rfl) : cs_ M 341 yX12_twist mX12_twist 2 := ⟨by rw [h]; exact Or.inl wd_1902, ck_X12_twist⟩
theorem cl_X12_307 {M : MM} (h : M.1 = RX12 := by rfl) : cs_ M 307 yX12_free mX12_free 2 := ⟨by rw [h]; exact Or.inl wd_1907, ck_X12_free⟩
theorem cl_X12_344 {M : MM} (h : M.1 = RX12 := by rfl) : cs_ M 344 yX12_poke mX12_poke 3 := ⟨by rw [h]; exact Or.inl wd_1911, ck_X12_poke⟩
theorem cl_X12_323 {M : MM} (h : M.1 = RX12 := by rfl) : cs_ M 323 yX12_isOfFace mX12_isOfFace 2 := ⟨by rw [h]; exact Or.inl wd_1915, ck_X12_isOfFace⟩
theorem cl_X12_353 {M : MM} (h : M.1 = RX12 := by rfl) : cs_ M 353 yX12_smooth mX12_smooth 2 := ⟨by rw [h]; exact Or.inl wd_1919, ck_X12_smooth⟩
theorem cl_L_156 {M : MM} (h : M.1 = RL := by rfl) : cs_ M 156 yX12_does mX12_does 2 := ⟨by rw [h]; exact Or.inl wd_1923, ck_X12_does⟩
theorem cl_X12_391 {M : MM} (h : M.1 = RX12 := by rfl) : cs_ M 391 yX12_replaced mX12_replaced 2 := ⟨by rw [h]; exact Or.inl wd_1927, ck_X12_replaced⟩
theorem cl_L_160 {M : MM} (h : M.1 = RL := by rfl) : cs_ M 160 yX12_undoes mX12_undoes 2 := ⟨by rw [h]; exact Or.inl wd_1931, ck_X12_undoes⟩
theorem cl_L_63 {M : MM} (h : M.1 = RL := by rfl) : cs_ M 63 yX12_mirror mX12_mirror 1 := ⟨by rw [h]; exact Or.inl wd_1935, ck_X12_mirror⟩
theorem cl_X12_394 {M : MM} (h : M.1 = RX12 := by rfl) : cs_ M 394 yX12_allTurned mX12_allTurned 2 := ⟨by rw [h]; exact Or.inl wd_1939, ck_X12_allTurned⟩
theorem cl_L_67 {M : MM} (h : M.1 = RL := by rfl) : cs_ M 67 yX12_turn mX12_turn 1 := ⟨by rw [h]; exact Or.inl wd_1943, ck_X12_turn⟩
theorem cl_L_79 {M : MM} (h : M.1 = RL := by rfl) : cs_ M 79 yX12_undo mX12_undo 1 := ⟨by rw [h]; exact Or.inl wd_1947, ck_X12_undo⟩
theorem cl_L_75 {M : MM} (h : M.1 = RL := by rfl) : cs_ M 75 yX12_twin mX12_twin 1 := ⟨by rw [h]; exact Or.inl wd_1951, ck_X12_twin⟩
theorem cl_L_71 {M : MM} (h : M.1 = RL := by rfl) : cs_ M 71 yX12_join mX12_join 4 := ⟨by rw [h]; exact Or.inl wd_1955, ck_X12_join⟩
theorem cl_X12_398 {M : MM} (h : M.1 = RX12 := by rfl) : cs_ M 398 yX12_fresh mX12_fresh 0 := ⟨by rw [h]; exact Or.inl wd_1959, ck_X12_fresh⟩
theorem cl_L_168 {M : MM} (h : M.1 = RL := by rfl) : cs_ M 168 yX12_like mX12_like 2 := ⟨by rw [h]; exact Or.inl wd_1963, ck_X12_like⟩
theorem cl_X12_412 {M : MM} (h : M.1 = RX12 := by rfl) : cs_ M 412 yX12_codeInto mX12_codeInto 3 := ⟨by rw [h]; exact Or.inl wd_1967, ck_X12_codeInto⟩
theorem cl_X12_401 {M : MM} (h : M.1 = RX12 := by rfl) : cs_ M 401 yX12_walk mX12_walk 3 := ⟨by rw [h]; exact Or.inl wd_1971, ck_X12_walk⟩
theorem cl_X12_404 {M : MM} (h : M.1 = RX12 := by rfl) : cs_ M 404 yX12_compare mX12_compare 6 := ⟨by rw [h]; exact Or.inl wd_1975, ck_X12_compare⟩
theorem cl_X12_408 {M : MM} (h : M.1 = RX12 := by rfl) : cs_ M 408 yX12_sortInto mX12_sortInto 4 := ⟨by rw [h]; exact Or.inl wd_1978, ck_X12_sortInto⟩
theorem cl_X12_416 {M : MM} (h : M.1 = RX12 := by rfl) : cs_ M 416 yX12_areAlike mX12_areAlike 4 := ⟨by rw [h]; exact Or.inl wd_1982, ck_X12_areAlike⟩
theorem cl_L_172 {M : MM} (h : M.1 = RL := by rfl) : cs_ M 172 yX12_search mX12_search 2 := ⟨by rw [h]; exact Or.inl wd_1985, ck_X12_search⟩
theorem cl_X12_446 {M : MM} (h : M.1 = RX12 := by rfl) : cs_ M 446 yX12_beginSearch mX12_beginSearch 1 := ⟨by rw [h]; exact Or.inl wd_1990, ck_X12_beginSearch⟩
theorem cl_X12_449 {M : MM} (h : M.1 = RX12 := by rfl) : cs_ M 449 yX12_goes mX12_goes 2 := ⟨by rw [h]; exact Or.inl wd_1994, ck_X12_goes⟩
theorem cl_X12_438 {M : MM} (h : M.1 = RX12 := by rfl) : cs_ M 438 yX12_stepped mX12_stepped 1 := ⟨by rw [h]; exact Or.inl wd_1998, ck_X12_stepped⟩
theorem cl_X12_441 {M : MM} (h : M.1 = RX12 := by rfl) : cs_ M 441 yX12_kept mX12_kept 1 := ⟨by rw [h]; exact Or.inl wd_2002, ck_X12_kept⟩
theorem cl_L_176 {M : MM} (h : M.1 = RL := by rfl) : cs_ M 176 yX12_goOn mX12_goOn 1 := ⟨by rw [h]; exact Or.inl wd_2006, ck_X12_goOn⟩
theorem cl_L_180 {M : MM} (h : M.1 = RL := by rfl) : cs_ M 180 yX12_searched mX12_searched 1 := ⟨by rw [h]; exact Or.inl wd_2010, ck_X12_searched⟩
theorem cl_X12_452 {M : MM} (h : M.1 = RX12 := by rfl) : cs_ M 452 yX12_fewest mX12_fewest 0 := ⟨by rw [h]; exact Or.inl wd_2014, ck_X12_fewest⟩
theorem cl_L_184 {M : MM} (h : M.1 = RL := by rfl) : cs_ M 184 yX12_fewer mX12_fewer 0 := ⟨by rw [h]; exact Or.inl wd_2018, ck_X12_fewer⟩
theorem cl_X12_458 {M : MM} (h : M.1 = RX12 := by rfl) : cs_ M 458 yX12_waysTo mX12_waysTo 1 := ⟨by rw [h]; exact Or.inl wd_2022, ck_X12_waysTo⟩
theorem cl_L_188 {M : MM} (h : M.1 = RL := by rfl) : cs_ M 188 yX12_same mX12_same 3 := ⟨by rw [h]; exact Or.inl wd_2026, ck_X12_same⟩
theorem cl_X12_461 {M : MM} (h : M.1 = RX12 := by rfl) : cs_ M 461 yX12_partsBy mX12_partsBy 2 := ⟨by rw [h]; exact Or.inl wd_2030, ck_X12_partsBy⟩
theorem cl_X12_464 {M : MM} (h : M.1 = RX12 := by rfl) : cs_ M 464 yX12_polynomialsPart mX12_polynomialsPart 2 := ⟨by rw [h]; exact Or.inl wd_2034, ck_X12_polynomialsPart⟩
theorem cl_L_192 {M : MM} (h : M.1 = RL := by rfl) : cs_ M 192 yX12_parted mX12_parted 0 := ⟨by rw [h]; exact Or.inl wd_2038, ck_X12_parted⟩
theorem cl_L_196 {M : MM} (h : M.1 = RL := by rfl) : cs_ M 196 yX12_way mX12_way 1 := ⟨by rw [h]; exact Or.inl wd_2042, ck_X12_way⟩
theorem cl_L_200 {M : MM} (h : M.1 = RL := by rfl) : cs_ M 200 yX12_check mX12_check 1 := ⟨by rw [h]; exact Or.inl wd_2046, ck_X12_check⟩
theorem cl_L_207 {M : MM} (h : M.1 = RL := by rfl) : cs_ M 207 yX12_book mX12_book 2 := ⟨by rw [h]; exact Or.inl wd_2050, ck_X12_book⟩
theorem cl_L_211 {M : MM} (h : M.1 = RL := by rfl) : cs_ M 211 yX12_name mX12_name 1 := ⟨by rw [h]; exact Or.inl wd_2054, ck_X12_name⟩
theorem cl_X12_473 {M : MM} (h : M.1 = RX12 := by rfl) : cs_ M 473 yX12_named mX12_named 0 := ⟨by rw [h]; exact Or.inl wd_2058, ck_X12_named⟩
theorem cl_L_215 {M : MM} (h : M.1 = RL := by rfl) : cs_ M 215 yX12_count mX12_count 1 := ⟨by rw [h]; exact Or.inl wd_2062, ck_X12_count⟩
theorem cl_L_219 {M : MM} (h : M.1 = RL := by rfl) : cs_ M 219 yX12_findings mX12_findings 1 := ⟨by rw [h]; exact Or.inl wd_2066, ck_X12_findings⟩
theorem cl_L_223 {M : MM} (h : M.1 = RL := by rfl) : cs_ M 223 yX12_status mX12_status 0 := ⟨by rw [h]; exact Or.inl wd_2070, ck_X12_status⟩
theorem cl_L_228 {M : MM} (h : M.1 = RL := by rfl) : cs_ M 228 yX12_digest mX12_digest 0 := ⟨by rw [h]; exact Or.inl wd_2074, ck_X12_digest⟩
