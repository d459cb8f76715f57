theorem kb_6 : (Int8.ofInt 6).toInt32 = 6 := by decide
theorem ki_0 : Int32.ofInt 0 = 0 := by decide
theorem kb_32 : (Int8.ofInt 32).toInt32 = 32 := by decide
theorem ki_1 : Int32.ofInt 1 = 1 := by decide
theorem ki_m1 : Int32.ofInt (-1) = (-1) := by decide
theorem ks_255 : (Int16.ofInt 255).toInt32 = 255 := by decide +kernel
theorem kb_48 : (Int8.ofInt 48).toInt32 = 48 := by decide
theorem kb_57 : (Int8.ofInt 57).toInt32 = 57 := by decide
theorem kb_10 : (Int8.ofInt 10).toInt32 = 10 := by decide
theorem ki_2 : Int32.ofInt 2 = 2 := by decide
theorem ki_4 : Int32.ofInt 4 = 4 := by decide
theorem kb_8 : (Int8.ofInt 8).toInt32 = 8 := by decide
theorem kb_16 : (Int8.ofInt 16).toInt32 = 16 := by decide
theorem kb_63 : (Int8.ofInt 63).toInt32 = 63 := by decide
theorem kb_59 : (Int8.ofInt 59).toInt32 = 59 := by decide
theorem kt_1009 : (1009 : Int32).toInt = 1009 := by decide
theorem kt_1008 : (1008 : Int32).toInt = 1008 := by decide
theorem kt_1007 : (1007 : Int32).toInt = 1007 := by decide
theorem kt_1006 : (1006 : Int32).toInt = 1006 := by decide
theorem kt_1005 : (1005 : Int32).toInt = 1005 := by decide
theorem kt_1004 : (1004 : Int32).toInt = 1004 := by decide
theorem ks_1004 : (Int16.ofInt 1004).toInt32 = 1004 := by decide +kernel
theorem ks_1000 : (Int16.ofInt 1000).toInt32 = 1000 := by decide +kernel
theorem ks_1001 : (Int16.ofInt 1001).toInt32 = 1001 := by decide +kernel
theorem ks_1002 : (Int16.ofInt 1002).toInt32 = 1002 := by decide +kernel
theorem ks_1003 : (Int16.ofInt 1003).toInt32 = 1003 := by decide +kernel
theorem ki_m2 : Int32.ofInt (-2) = (-2) := by decide
theorem kb_99 : (Int8.ofInt 99).toInt32 = 99 := by decide
theorem kb_30 : (Int8.ofInt 30).toInt32 = 30 := by decide
theorem kb_36 : (Int8.ofInt 36).toInt32 = 36 := by decide
theorem ks_384 : (Int16.ofInt 384).toInt32 = 384 := by decide +kernel
theorem ks_150 : (Int16.ofInt 150).toInt32 = 150 := by decide +kernel
theorem ks_1010 : (Int16.ofInt 1010).toInt32 = 1010 := by decide +kernel
theorem ks_1008 : (Int16.ofInt 1008).toInt32 = 1008 := by decide +kernel
theorem ks_1006 : (Int16.ofInt 1006).toInt32 = 1006 := by decide +kernel
theorem ks_1007 : (Int16.ofInt 1007).toInt32 = 1007 := by decide +kernel
theorem ks_1009 : (Int16.ofInt 1009).toInt32 = 1009 := by decide +kernel
theorem kt_47 : (47 : Int32).toInt = 47 := by decide
theorem kt_46 : (46 : Int32).toInt = 46 := by decide
theorem kt_45 : (45 : Int32).toInt = 45 := by decide
theorem kt_44 : (44 : Int32).toInt = 44 := by decide
theorem kt_43 : (43 : Int32).toInt = 43 := by decide
theorem kt_42 : (42 : Int32).toInt = 42 := by decide
theorem kt_41 : (41 : Int32).toInt = 41 := by decide
theorem kt_40 : (40 : Int32).toInt = 40 := by decide
theorem kt_39 : (39 : Int32).toInt = 39 := by decide
theorem kt_38 : (38 : Int32).toInt = 38 := by decide
theorem kt_37 : (37 : Int32).toInt = 37 := by decide
theorem kb_64 : (Int8.ofInt 64).toInt32 = 64 := by decide
theorem kb_33 : (Int8.ofInt 33).toInt32 = 33 := by decide
theorem kb_118 : (Int8.ofInt 118).toInt32 = 118 := by decide
theorem kb_58 : (Int8.ofInt 58).toInt32 = 58 := by decide
theorem kb_44 : (Int8.ofInt 44).toInt32 = 44 := by decide
theorem ks_256 : (Int16.ofInt 256).toInt32 = 256 := by decide +kernel
theorem ki_8 : Int32.ofInt 8 = 8 := by decide
theorem ki_16 : Int32.ofInt 16 = 16 := by decide
theorem kb_31 : (Int8.ofInt 31).toInt32 = 31 := by decide
theorem ks_12345 : (Int16.ofInt 12345).toInt32 = 12345 := by decide +kernel
theorem ks_32767 : (Int16.ofInt 32767).toInt32 = 32767 := by decide +kernel
theorem kb_100 : (Int8.ofInt 100).toInt32 = 100 := by decide
theorem kt_6 : (6 : Int32).toInt = 6 := by decide
theorem kt_5 : (5 : Int32).toInt = 5 := by decide
theorem kt_4 : (4 : Int32).toInt = 4 := by decide
theorem kt_3 : (3 : Int32).toInt = 3 := by decide
theorem kt_2 : (2 : Int32).toInt = 2 := by decide
theorem kt_1 : (1 : Int32).toInt = 1 := by decide
theorem kt_0 : (0 : Int32).toInt = 0 := by decide
theorem kb_96 : (Int8.ofInt 96).toInt32 = 96 := by decide
theorem ks_600 : (Int16.ofInt 600).toInt32 = 600 := by decide +kernel
theorem kb_20 : (Int8.ofInt 20).toInt32 = 20 := by decide
theorem kb_24 : (Int8.ofInt 24).toInt32 = 24 := by decide
theorem ki_m8 : Int32.ofInt (-8) = (-8) := by decide
theorem kb_97 : (Int8.ofInt 97).toInt32 = 97 := by decide
theorem kb_122 : (Int8.ofInt 122).toInt32 = 122 := by decide
theorem kt_8 : (8 : Int32).toInt = 8 := by decide
theorem kt_7 : (7 : Int32).toInt = 7 := by decide
theorem ki_3 : Int32.ofInt 3 = 3 := by decide
theorem ks_968 : (Int16.ofInt 968).toInt32 = 968 := by decide +kernel
theorem ks_181 : (Int16.ofInt 181).toInt32 = 181 := by decide +kernel
theorem ks_182 : (Int16.ofInt 182).toInt32 = 182 := by decide +kernel
theorem ks_183 : (Int16.ofInt 183).toInt32 = 183 := by decide +kernel
theorem ks_184 : (Int16.ofInt 184).toInt32 = 184 := by decide +kernel
theorem ks_160 : (Int16.ofInt 160).toInt32 = 160 := by decide +kernel
theorem kb_80 : (Int8.ofInt 80).toInt32 = 80 := by decide
theorem ks_16457 : (Int16.ofInt 16457).toInt32 = 16457 := by decide +kernel
theorem kb_60 : (Int8.ofInt 60).toInt32 = 60 := by decide
theorem kb_12 : (Int8.ofInt 12).toInt32 = 12 := by decide
theorem kb_27 : (Int8.ofInt 27).toInt32 = 27 := by decide
theorem kb_13 : (Int8.ofInt 13).toInt32 = 13 := by decide
theorem ki_5 : Int32.ofInt 5 = 5 := by decide
theorem kb_18 : (Int8.ofInt 18).toInt32 = 18 := by decide
theorem kb_9 : (Int8.ofInt 9).toInt32 = 9 := by decide
theorem kb_7 : (Int8.ofInt 7).toInt32 = 7 := by decide
theorem kb_22 : (Int8.ofInt 22).toInt32 = 22 := by decide
theorem kb_23 : (Int8.ofInt 23).toInt32 = 23 := by decide
theorem kb_19 : (Int8.ofInt 19).toInt32 = 19 := by decide
theorem kb_26 : (Int8.ofInt 26).toInt32 = 26 := by decide
theorem kb_14 : (Int8.ofInt 14).toInt32 = 14 := by decide
theorem kb_11 : (Int8.ofInt 11).toInt32 = 11 := by decide
theorem kb_15 : (Int8.ofInt 15).toInt32 = 15 := by decide
theorem ks_200 : (Int16.ofInt 200).toInt32 = 200 := by decide +kernel
theorem ks_188 : (Int16.ofInt 188).toInt32 = 188 := by decide +kernel
theorem kb_120 : (Int8.ofInt 120).toInt32 = 120 := by decide
theorem ks_185 : (Int16.ofInt 185).toInt32 = 185 := by decide +kernel
theorem ks_187 : (Int16.ofInt 187).toInt32 = 187 := by decide +kernel
theorem kb_72 : (Int8.ofInt 72).toInt32 = 72 := by decide
theorem ks_180 : (Int16.ofInt 180).toInt32 = 180 := by decide +kernel
theorem ks_186 : (Int16.ofInt 186).toInt32 = 186 := by decide +kernel
theorem kt_10 : (10 : Int32).toInt = 10 := by decide
theorem kt_9 : (9 : Int32).toInt = 9 := by decide
theorem kb_29 : (Int8.ofInt 29).toInt32 = 29 := by decide
theorem ks_9999 : (Int16.ofInt 9999).toInt32 = 9999 := by decide +kernel
abbrev M_X0_init : MI := (cX0_init, RX0, 1, 1, 20, none, "<init>")
abbrev M_X0_forget : MI := (cX0_forget, RX0, 1, 0, 0, none, "forget")
abbrev M_X9_peek : MI := (cX9_peek, RX9, 2, 0, 0, (some .int), "peek")
abbrev M_X9_isEnded : MI := (cX9_isEnded, RX9, 1, 1, 21, (some .boolean), "isEnded")
abbrev M_X9_isDigit : MI := (cX9_isDigit, RX9, 1, 0, 0, (some .boolean), "isDigit")
abbrev M_X9_fail : MI := (cX9_fail, RX9, 3, 0, 0, (some .boolean), "fail")
abbrev M_X9_byteAt : MI := (cX9_byteAt, RX9, 2, 0, 0, (some .int), "byteAt")
abbrev M_X11_isWithin : MI := (cX11_isWithin, RX11, 3, 0, 0, (some .boolean), "isWithin")
abbrev M_X9_number : MI := (cX9_number, RX9, 4, 1, 22, (some .boolean), "number")
abbrev M_X11_has : MI := (cX11_has, RX11, 2, 0, 0, (some .boolean), "has")
abbrev M_X9_sign : MI := (cX9_sign, RX9, 2, 1, 22, (some .boolean), "sign")
abbrev M_J6_bitCount_0f7a4 : MI := (cJ6_bitCount_0f7a4, RJ6, 1, 0, 0, (some .int), "bitCount")
abbrev M_X0_read : MI := (cX0_read, RX0, 7, 2, 45, (some .boolean), "read")
abbrev M_X3_reckon : MI := (cX3_reckon, RX3, 3, 1, 21, (some .int), "reckon")
abbrev M_X3_weigh : MI := (cX3_weigh, RX3, 9, 2, 43, (some .int), "weigh")
abbrev M_X6_weigh : MI := (cX6_weigh, RX6, 4, 3, 71, none, "weigh")
abbrev M_X6_partings : MI := (cX6_partings, RX6, 1, 0, 0, (some .int), "partings")
abbrev M_X7_standing : MI := (cX7_standing, RX7, 1, 0, 0, (some .int), "standing")
abbrev M_X6_hasMoreThanHalf : MI := (cX6_hasMoreThanHalf, RX6, 4, 1, 21, (some .boolean), "hasMoreThanHalf")
abbrev M_X6_partBy : MI := (cX6_partBy, RX6, 5, 2, 44, (some .int), "partBy")
abbrev M_X0_addWith : MI := (cX0_addWith, RX0, 3, 1, 21, none, "addWith")
abbrev M_X0_sift : MI := (cX0_sift, RX0, 6, 4, 94, none, "sift")
abbrev M_X0_leftAtWorst : MI := (cX0_leftAtWorst, RX0, 2, 1, 21, (some .int), "leftAtWorst")
abbrev M_X0_bestToAsk : MI := (cX0_bestToAsk, RX0, 4, 2, 42, (some .int), "bestToAsk")
abbrev M_X1_init : MI := (cX1_init, RX1, 1, 1, 20, none, "<init>")
abbrev M_X1_readNumber : MI := (cX1_readNumber, RX1, 3, 2, 45, (some .boolean), "readNumber")
abbrev M_X7_init : MI := (cX7_init, RX7, 1, 1, 20, none, "<init>")
abbrev M_X5_init : MI := (cX5_init, RX5, 1, 1, 20, none, "<init>")
abbrev M_X2_init : MI := (cX2_init, RX2, 1, 2, 40, none, "<init>")
abbrev M_X3_forget : MI := (cX3_forget, RX3, 1, 0, 0, none, "forget")
abbrev M_X3_init : MI := (cX3_init, RX3, 1, 1, 20, none, "<init>")
abbrev M_X3_joint : MI := (cX3_joint, RX3, 1, 0, 0, (some .int), "joint")
abbrev M_X3_emit : MI := (cX3_emit, RX3, 2, 0, 0, none, "emit")
abbrev M_X4_init : MI := (cX4_init, RX4, 1, 1, 20, none, "<init>")
abbrev M_X4_put : MI := (cX4_put, RX4, 2, 0, 0, none, "put")
abbrev M_X4_putNumber : MI := (cX4_putNumber, RX4, 4, 1, 21, none, "putNumber")
abbrev M_X4_putMember : MI := (cX4_putMember, RX4, 3, 2, 44, none, "putMember")
abbrev M_X4_write : MI := (cX4_write, RX4, 4, 3, 66, none, "write")
abbrev M_X4_signAt : MI := (cX4_signAt, RX4, 2, 0, 0, (some .int), "signAt")
abbrev M_X5_isFull : MI := (cX5_isFull, RX5, 1, 0, 0, (some .boolean), "isFull")
abbrev M_X5_forget : MI := (cX5_forget, RX5, 1, 0, 0, none, "forget")
abbrev M_X7_copy : MI := (cX7_copy, RX7, 2, 1, 60, none, "copy")
abbrev M_X5_put : MI := (cX5_put, RX5, 4, 2, 81, (some .boolean), "put")
abbrev M_X5_keep : MI := (cX5_keep, RX5, 2, 3, 104, none, "keep")
abbrev M_X5_giveBack : MI := (cX5_giveBack, RX5, 3, 2, 81, (some .boolean), "giveBack")
abbrev M_X5_copy : MI := (cX5_copy, RX5, 4, 3, 104, none, "copy")
abbrev M_X6_init : MI := (cX6_init, RX6, 3, 1, 20, none, "<init>")
abbrev M_X6_limit : MI := (cX6_limit, RX6, 1, 0, 0, (some .int), "limit")
abbrev M_X6_members : MI := (cX6_members, RX6, 1, 0, 0, (some .int), "members")
abbrev M_X6_partNow : MI := (cX6_partNow, RX6, 2, 4, 94, (some .int), "partNow")
abbrev M_X6_survivorsNow : MI := (cX6_survivorsNow, RX6, 3, 5, 115, (some .int), "survivorsNow")
abbrev M_X6_hold : MI := (cX6_hold, RX6, 4, 4, 94, (some .boolean), "hold")
abbrev M_X7_keptBy : MI := (cX7_keptBy, RX7, 4, 1, 21, (some .int), "keptBy")
abbrev M_X7_worthOf : MI := (cX7_worthOf, RX7, 2, 0, 0, (some .long), "worthOf")
abbrev M_X7_deliver : MI := (cX7_deliver, RX7, 5, 1, 21, none, "deliver")
abbrev M_X7_flush : MI := (cX7_flush, RX7, 6, 2, 45, none, "flush")
abbrev M_J6_numberOfTrailingZeros_0f7a4 : MI := (cJ6_numberOfTrailingZeros_0f7a4, RJ6, 2, 0, 0, (some .int), "numberOfTrailingZeros")
abbrev M_X7_dropMessages : MI := (cX7_dropMessages, RX7, 2, 0, 0, none, "dropMessages")
abbrev M_X7_changeView : MI := (cX7_changeView, RX7, 5, 3, 70, none, "changeView")
abbrev M_X7_post : MI := (cX7_post, RX7, 5, 2, 45, (some .boolean), "post")
abbrev M_X7_sendHeld : MI := (cX7_sendHeld, RX7, 4, 3, 69, none, "sendHeld")
abbrev M_X6_view : MI := (cX6_view, RX6, 5, 4, 94, (some .boolean), "view")
abbrev M_X6_fewestToFall : MI := (cX6_fewestToFall, RX6, 6, 5, 115, (some .int), "fewestToFall")
abbrev M_X6_countLameSplits : MI := (cX6_countLameSplits, RX6, 4, 4, 94, (some .int), "countLameSplits")
abbrev M_X11_allOf : MI := (cX11_allOf, RX11, 1, 0, 0, (some .int), "allOf")
abbrev M_X7_begin : MI := (cX7_begin, RX7, 4, 1, 21, none, "begin")
abbrev M_X7_stands : MI := (cX7_stands, RX7, 2, 1, 21, (some .boolean), "stands")
abbrev M_X7_reaches : MI := (cX7_reaches, RX7, 3, 1, 21, (some .boolean), "reaches")
abbrev M_X7_keepBack : MI := (cX7_keepBack, RX7, 4, 0, 0, (some .boolean), "keepBack")
abbrev M_X7_send : MI := (cX7_send, RX7, 4, 3, 69, (some .boolean), "send")
abbrev M_X7_firstOnTheWay : MI := (cX7_firstOnTheWay, RX7, 4, 2, 43, (some .int), "firstOnTheWay")
abbrev M_X7_take : MI := (cX7_take, RX7, 3, 3, 66, (some .boolean), "take")
abbrev M_X7_lose : MI := (cX7_lose, RX7, 3, 3, 66, (some .boolean), "lose")
abbrev M_X7_tell : MI := (cX7_tell, RX7, 3, 2, 43, (some .boolean), "tell")
abbrev M_X7_stableBy : MI := (cX7_stableBy, RX7, 4, 1, 21, (some .int), "stableBy")
abbrev M_X7_trim : MI := (cX7_trim, RX7, 3, 2, 44, (some .boolean), "trim")
abbrev M_X7_crash : MI := (cX7_crash, RX7, 4, 1, 21, (some .boolean), "crash")
abbrev M_X7_join : MI := (cX7_join, RX7, 2, 2, 42, (some .boolean), "join")
abbrev M_X7_part : MI := (cX7_part, RX7, 2, 0, 0, (some .boolean), "part")
abbrev M_X7_lackOf : MI := (cX7_lackOf, RX7, 3, 2, 44, (some .int), "lackOf")
abbrev M_X7_gotByNoneOf : MI := (cX7_gotByNoneOf, RX7, 4, 1, 21, (some .int), "gotByNoneOf")
abbrev M_X7_sumBehindFlush : MI := (cX7_sumBehindFlush, RX7, 7, 3, 66, (some .long), "sumBehindFlush")
abbrev M_X7_wouldAgree : MI := (cX7_wouldAgree, RX7, 8, 4, 92, (some .boolean), "wouldAgree")
abbrev M_X7_countOnTheWay : MI := (cX7_countOnTheWay, RX7, 3, 1, 20, (some .int), "countOnTheWay")
abbrev M_X7_ownersOf : MI := (cX7_ownersOf, RX7, 4, 0, 0, (some .int), "ownersOf")
abbrev M_X7_isUntold : MI := (cX7_isUntold, RX7, 3, 2, 43, (some .boolean), "isUntold")
abbrev M_X7_countUntold : MI := (cX7_countUntold, RX7, 3, 3, 65, (some .int), "countUntold")
abbrev M_X7_countLore : MI := (cX7_countLore, RX7, 4, 1, 21, (some .int), "countLore")
abbrev M_X7_furthestBehind : MI := (cX7_furthestBehind, RX7, 5, 2, 42, (some .int), "furthestBehind")
abbrev M_X8_init : MI := (cX8_init, RX8, 1, 1, 20, none, "<init>")
abbrev M_X8_draw : MI := (cX8_draw, RX8, 2, 0, 0, (some .int), "draw")
abbrev M_X8_crashOrJoin : MI := (cX8_crashOrJoin, RX8, 3, 3, 63, none, "crashOrJoin")
abbrev M_X8_gust : MI := (cX8_gust, RX8, 5, 5, 118, none, "gust")
abbrev M_X8_blow : MI := (cX8_blow, RX8, 7, 6, 142, none, "blow")
abbrev M_X9_init : MI := (cX9_init, RX9, 1, 1, 20, none, "<init>")
abbrev M_X9_hasRoom : MI := (cX9_hasRoom, RX9, 1, 0, 0, (some .boolean), "hasRoom")
abbrev M_X9_put : MI := (cX9_put, RX9, 3, 0, 0, none, "put")
abbrev M_X9_open : MI := (cX9_open, RX9, 2, 1, 21, none, "open")
abbrev M_X9_skip : MI := (cX9_skip, RX9, 1, 0, 0, none, "skip")
abbrev M_X9_isLetter : MI := (cX9_isLetter, RX9, 1, 0, 0, (some .boolean), "isLetter")
abbrev M_X9_word : MI := (cX9_word, RX9, 2, 1, 22, (some .boolean), "word")
abbrev M_X10_init : MI := (cX10_init, RX10, 1, 1, 20, none, "<init>")
abbrev M_X10_emit : MI := (cX10_emit, RX10, 4, 0, 0, none, "emit")
abbrev M_X10_begin : MI := (cX10_begin, RX10, 1, 0, 0, none, "begin")
abbrev M_X10_score : MI := (cX10_score, RX10, 2, 0, 0, none, "score")
abbrev M_X10_doStep : MI := (cX10_doStep, RX10, 5, 5, 118, (some .boolean), "doStep")
abbrev M_X11_init : MI := (cX11_init, RX11, 1, 2, 44, none, "<init>")
abbrev M_X11_feed : MI := (cX11_feed, RX11, 6, 1, 22, (some .int), "feed")
abbrev M_X11_fault : MI := (cX11_fault, RX11, 1, 0, 0, (some .int), "fault")
abbrev M_X11_undo : MI := (cX11_undo, RX11, 1, 3, 103, (some .int), "undo")
abbrev M_X11_primary : MI := (cX11_primary, RX11, 1, 5, 115, (some .int), "primary")
abbrev M_X11_lost : MI := (cX11_lost, RX11, 2, 5, 115, (some .int), "lost")
abbrev M_X11_fall : MI := (cX11_fall, RX11, 1, 6, 140, (some .int), "fall")
abbrev M_X11_splits : MI := (cX11_splits, RX11, 1, 5, 117, (some .int), "splits")
abbrev M_X11_tells : MI := (cX11_tells, RX11, 1, 4, 87, (some .int), "tells")
abbrev M_X11_agree : MI := (cX11_agree, RX11, 1, 6, 137, (some .boolean), "agree")
abbrev M_X11_note : MI := (cX11_note, RX11, 1, 4, 89, (some .int), "note")
abbrev M_X11_image : MI := (cX11_image, RX11, 2, 4, 127, (some .int), "image")
abbrev M_X11_restore : MI := (cX11_restore, RX11, 2, 4, 127, (some .int), "restore")
abbrev M_X11_status : MI := (cX11_status, RX11, 2, 1, 22, (some .int), "status")
abbrev M_X11_count : MI := (cX11_count, RX11, 2, 0, 0, (some .int), "count")
abbrev M_X12_tellsNothing : MI := (cX12_tellsNothing, RX12, 1, 0, 0, none, "tellsNothing")
abbrev M_X12_has : MI := (cX12_has, RX12, 2, 0, 0, (some .boolean), "has")
abbrev M_X12_beginsAnew : MI := (cX12_beginsAnew, RX12, 2, 1, 21, none, "beginsAnew")
abbrev M_X12_init : MI := (cX12_init, RX12, 1, 2, 42, none, "<init>")
abbrev M_X12_thrown : MI := (cX12_thrown, RX12, 1, 0, 0, (some .int), "thrown")
abbrev M_X12_bad : MI := (cX12_bad, RX12, 4, 0, 0, (some .boolean), "bad")
abbrev M_X12_in : MI := (cX12_in, RX12, 3, 0, 0, (some .boolean), "in")
abbrev M_X12_less : MI := (cX12_less, RX12, 2, 0, 0, (some .int), "less")
abbrev M_X12_more : MI := (cX12_more, RX12, 2, 0, 0, (some .int), "more")
abbrev M_X12_feed : MI := (cX12_feed, RX12, 8, 0, 0, (some .int), "feed")
abbrev M_X12_byteAt : MI := (cX12_byteAt, RX12, 2, 0, 0, (some .int), "byteAt")
abbrev M_X12_blanks : MI := (cX12_blanks, RX12, 1, 1, 21, none, "blanks")
abbrev M_X12_wrong : MI := (cX12_wrong, RX12, 3, 0, 0, none, "wrong")
abbrev M_X12_isDigit : MI := (cX12_isDigit, RX12, 1, 0, 0, (some .boolean), "isDigit")
abbrev M_X12_isSmall : MI := (cX12_isSmall, RX12, 1, 0, 0, (some .boolean), "isSmall")
abbrev M_X12_number : MI := (cX12_number, RX12, 5, 2, 41, (some .int), "number")
abbrev M_X12_wordHere : MI := (cX12_wordHere, RX12, 3, 2, 41, (some .int), "wordHere")
abbrev M_X12_six : MI := (cX12_six, RX12, 7, 0, 0, (some .int), "six")
abbrev M_X12_isWord : MI := (cX12_isWord, RX12, 7, 3, 63, (some .boolean), "isWord")
abbrev M_X12_skipWord : MI := (cX12_skipWord, RX12, 1, 1, 21, none, "skipWord")
abbrev M_X12_takes : MI := (cX12_takes, RX12, 8, 4, 89, (some .boolean), "takes")
abbrev M_X12_sign : MI := (cX12_sign, RX12, 2, 2, 41, none, "sign")
abbrev M_X12_takesSign : MI := (cX12_takesSign, RX12, 3, 2, 41, (some .boolean), "takesSign")
abbrev M_X12_starts : MI := (cX12_starts, RX12, 2, 2, 41, none, "starts")
abbrev M_X12_ends : MI := (cX12_ends, RX12, 1, 0, 0, (some .int), "ends")
abbrev M_X12_clause : MI := (cX12_clause, RX12, 3, 4, 89, none, "clause")
abbrev M_X12_group : MI := (cX12_group, RX12, 2, 5, 111, (some .int), "group")
abbrev M_X12_lays : MI := (cX12_lays, RX12, 5, 0, 0, none, "lays")
abbrev M_X12_copies : MI := (cX12_copies, RX12, 3, 0, 0, none, "copies")
abbrev M_X12_notes : MI := (cX12_notes, RX12, 3, 0, 0, none, "notes")
abbrev M_X12_opensOne : MI := (cX12_opensOne, RX12, 1, 1, 22, (some .boolean), "opensOne")
abbrev M_X12_knownHere : MI := (cX12_knownHere, RX12, 1, 5, 116, (some .int), "knownHere")
abbrev M_X12_by : MI := (cX12_by, RX12, 3, 1, 21, (some .int), "by")
abbrev M_X12_byLaw : MI := (cX12_byLaw, RX12, 3, 2, 43, (some .int), "byLaw")
abbrev M_X12_stepHere : MI := (cX12_stepHere, RX12, 1, 4, 89, (some .int), "stepHere")
abbrev M_X12_book : MI := (cX12_book, RX12, 7, 3, 65, (some .int), "book")
abbrev M_X12_fault : MI := (cX12_fault, RX12, 1, 0, 0, (some .int), "fault")
abbrev M_X12_wide : MI := (cX12_wide, RX12, 2, 0, 0, (some .long), "wide")
abbrev M_X12_widens : MI := (cX12_widens, RX12, 4, 0, 0, none, "widens")
abbrev M_X12_entryOf : MI := (cX12_entryOf, RX12, 2, 0, 0, (some .int), "entryOf")
abbrev M_X12_logs : MI := (cX12_logs, RX12, 2, 1, 23, none, "logs")
abbrev M_X12_ones : MI := (cX12_ones, RX12, 3, 0, 0, (some .int), "ones")
abbrev M_X12_isInside : MI := (cX12_isInside, RX12, 2, 1, 21, (some .boolean), "isInside")
abbrev M_X12_reaches : MI := (cX12_reaches, RX12, 3, 1, 21, (some .boolean), "reaches")
abbrev M_X12_knownOf : MI := (cX12_knownOf, RX12, 2, 0, 0, (some .int), "knownOf")
abbrev M_X12_delivers : MI := (cX12_delivers, RX12, 3, 2, 44, none, "delivers")
abbrev M_X12_sends : MI := (cX12_sends, RX12, 6, 3, 66, (some .boolean), "sends")
abbrev M_X12_nextOf : MI := (cX12_nextOf, RX12, 5, 2, 43, (some .int), "nextOf")
abbrev M_X12_takesOne : MI := (cX12_takesOne, RX12, 5, 3, 67, (some .boolean), "takesOne")
abbrev M_X12_tellsOthers : MI := (cX12_tellsOthers, RX12, 4, 2, 43, (some .boolean), "tellsOthers")
abbrev M_X12_stableBy : MI := (cX12_stableBy, RX12, 5, 1, 21, (some .int), "stableBy")
abbrev M_X12_trims : MI := (cX12_trims, RX12, 4, 2, 45, (some .boolean), "trims")
abbrev M_X12_forgets : MI := (cX12_forgets, RX12, 3, 1, 21, none, "forgets")
abbrev M_X12_crashes : MI := (cX12_crashes, RX12, 3, 2, 43, (some .boolean), "crashes")
abbrev M_X12_joins : MI := (cX12_joins, RX12, 2, 2, 42, (some .boolean), "joins")
abbrev M_X12_weightBy : MI := (cX12_weightBy, RX12, 5, 3, 65, (some .int), "weightBy")
abbrev M_X12_weight : MI := (cX12_weight, RX12, 3, 4, 89, (some .int), "weight")
abbrev M_X12_weigh : MI := (cX12_weigh, RX12, 5, 5, 111, (some .int), "weigh")
abbrev M_X12_primaryBy : MI := (cX12_primaryBy, RX12, 8, 6, 135, (some .int), "primaryBy")
abbrev M_X12_primaryOf : MI := (cX12_primaryOf, RX12, 2, 7, 162, (some .int), "primaryOf")
abbrev M_X12_survivors : MI := (cX12_survivors, RX12, 3, 8, 183, (some .int), "survivors")
abbrev M_X12_keptBy : MI := (cX12_keptBy, RX12, 5, 1, 21, (some .int), "keptBy")
abbrev M_X12_missingOf : MI := (cX12_missingOf, RX12, 4, 9, 205, (some .int), "missingOf")
abbrev M_X12_flushes : MI := (cX12_flushes, RX12, 6, 3, 66, none, "flushes")
abbrev M_X12_holds : MI := (cX12_holds, RX12, 3, 9, 205, (some .boolean), "holds")
abbrev M_X12_least : MI := (cX12_least, RX12, 2, 1, 21, (some .int), "least")
abbrev M_X12_comesIn : MI := (cX12_comesIn, RX12, 4, 2, 44, none, "comesIn")
abbrev M_X12_leavesOut : MI := (cX12_leavesOut, RX12, 3, 0, 0, none, "leavesOut")
abbrev M_X12_sendsHeld : MI := (cX12_sendsHeld, RX12, 5, 4, 91, none, "sendsHeld")
abbrev M_X12_views : MI := (cX12_views, RX12, 6, 9, 205, (some .boolean), "views")
abbrev M_X12_does : MI := (cX12_does, RX12, 4, 10, 230, (some .boolean), "does")
abbrev M_X12_undo : MI := (cX12_undo, RX12, 1, 1, 22, (some .int), "undo")
abbrev M_X12_told : MI := (cX12_told, RX12, 4, 1, 23, (some .int), "told")
abbrev M_X12_isMember : MI := (cX12_isMember, RX12, 2, 1, 22, (some .boolean), "isMember")
abbrev M_X12_member : MI := (cX12_member, RX12, 3, 5, 111, (some .int), "member")
abbrev M_X12_tally : MI := (cX12_tally, RX12, 2, 2, 43, (some .long), "tally")
abbrev M_X12_log : MI := (cX12_log, RX12, 3, 2, 43, (some .long), "log")
abbrev M_X12_whoHas : MI := (cX12_whoHas, RX12, 5, 1, 21, (some .int), "whoHas")
abbrev M_X12_message : MI := (cX12_message, RX12, 3, 2, 45, (some .int), "message")
abbrev M_X12_knows : MI := (cX12_knows, RX12, 3, 2, 43, (some .int), "knows")
abbrev M_X12_stable : MI := (cX12_stable, RX12, 2, 2, 45, (some .int), "stable")
abbrev M_X12_would : MI := (cX12_would, RX12, 5, 4, 89, (some .int), "would")
abbrev M_X12_primary : MI := (cX12_primary, RX12, 1, 8, 183, (some .int), "primary")
abbrev M_X12_missing : MI := (cX12_missing, RX12, 2, 10, 228, (some .int), "missing")
abbrev M_X12_lost : MI := (cX12_lost, RX12, 4, 8, 183, (some .int), "lost")
abbrev M_X12_fall : MI := (cX12_fall, RX12, 4, 7, 162, (some .int), "fall")
abbrev M_X12_primaryIf : MI := (cX12_primaryIf, RX12, 2, 7, 162, (some .int), "primaryIf")
abbrev M_X12_splits : MI := (cX12_splits, RX12, 3, 8, 183, (some .int), "splits")
abbrev M_X12_hasToTell : MI := (cX12_hasToTell, RX12, 3, 2, 43, (some .boolean), "hasToTell")
abbrev M_X12_tells : MI := (cX12_tells, RX12, 3, 3, 65, (some .int), "tells")
abbrev M_X12_next : MI := (cX12_next, RX12, 2, 3, 67, (some .int), "next")
abbrev M_X12_held : MI := (cX12_held, RX12, 3, 2, 43, (some .int), "held")
abbrev M_X12_agreeBy : MI := (cX12_agreeBy, RX12, 5, 9, 205, (some .boolean), "agreeBy")
abbrev M_X12_agree : MI := (cX12_agree, RX12, 1, 10, 229, (some .boolean), "agree")
abbrev M_X12_isSo : MI := (cX12_isSo, RX12, 4, 8, 183, (some .boolean), "isSo")
abbrev M_X12_fits : MI := (cX12_fits, RX12, 5, 9, 206, (some .int), "fits")
abbrev M_X12_isTold : MI := (cX12_isTold, RX12, 3, 0, 0, (some .boolean), "isTold")
abbrev M_X12_worstAt : MI := (cX12_worstAt, RX12, 6, 9, 206, (some .int), "worstAt")
abbrev M_X12_look : MI := (cX12_look, RX12, 6, 10, 231, (some .int), "look")
abbrev M_X12_notesSign : MI := (cX12_notesSign, RX12, 2, 0, 0, none, "notesSign")
abbrev M_X12_notesNumber : MI := (cX12_notesNumber, RX12, 4, 1, 21, none, "notesNumber")
abbrev M_X12_laysNote : MI := (cX12_laysNote, RX12, 3, 2, 44, none, "laysNote")
abbrev M_X12_note : MI := (cX12_note, RX12, 1, 3, 66, (some .int), "note")
abbrev M_X12_spelt : MI := (cX12_spelt, RX12, 2, 3, 66, (some .int), "spelt")
abbrev M_X12_lore : MI := (cX12_lore, RX12, 4, 2, 43, (some .int), "lore")
abbrev M_X12_behind : MI := (cX12_behind, RX12, 6, 1, 23, (some .int), "behind")
abbrev M_X12_draw : MI := (cX12_draw, RX12, 2, 0, 0, (some .int), "draw")
abbrev M_X12_onceBy : MI := (cX12_onceBy, RX12, 5, 10, 230, none, "onceBy")
abbrev M_X12_stormBy : MI := (cX12_stormBy, RX12, 5, 11, 254, none, "stormBy")
abbrev M_X12_isStorm : MI := (cX12_isStorm, RX12, 2, 1, 22, (some .boolean), "isStorm")
abbrev M_X12_storm : MI := (cX12_storm, RX12, 5, 12, 278, (some .int), "storm")
abbrev M_X12_span : MI := (cX12_span, RX12, 11, 12, 278, (some .int), "span")
abbrev M_X12_puts : MI := (cX12_puts, RX12, 4, 0, 0, (some .int), "puts")
abbrev M_X12_putsAll : MI := (cX12_putsAll, RX12, 5, 1, 23, none, "putsAll")
abbrev M_X12_image : MI := (cX12_image, RX12, 1, 2, 47, (some .int), "image")
abbrev M_X12_restore : MI := (cX12_restore, RX12, 1, 2, 47, (some .int), "restore")
abbrev M_X12_status : MI := (cX12_status, RX12, 2, 1, 22, (some .int), "status")
abbrev M_X12_count : MI := (cX12_count, RX12, 2, 0, 0, (some .int), "count")
theorem cw_X0_init : CwOk M_X0_init yX0_init 0 := ⟨q_167, q_6, by decide +kernel⟩
theorem cw_X0_forget : CwOk M_X0_forget yX0_forget 0 := ⟨q_837, q_6, by decide +kernel⟩
theorem cw_X9_peek : CwOk M_X9_peek yX9_peek 0 := ⟨q_746, q_2, by decide +kernel⟩
theorem cw_X9_isEnded : CwOk M_X9_isEnded yX9_isEnded 0 := ⟨q_742, q_2, by decide +kernel⟩
theorem cw_X9_isDigit : CwOk M_X9_isDigit yX9_isDigit 1 := ⟨q_826, q_2, by decide +kernel⟩
theorem cw_X9_fail : CwOk M_X9_fail yX9_fail 2 := ⟨q_757, q_2, by decide +kernel⟩
theorem cw_X9_byteAt : CwOk M_X9_byteAt yX9_byteAt 1 := ⟨q_761, q_2, by decide +kernel⟩
theorem cw_X11_isWithin : CwOk M_X11_isWithin yX11_isWithin 3 := ⟨q_629, q_1, by decide +kernel⟩
theorem cw_X9_number : CwOk M_X9_number yX9_number 2 := ⟨q_823, q_2, by decide +kernel⟩
theorem cw_X11_has : CwOk M_X11_has yX11_has 2 := ⟨q_361, q_1, by decide +kernel⟩
theorem cw_X9_sign : CwOk M_X9_sign yX9_sign 1 := ⟨q_832, q_2, by decide +kernel⟩
theorem cw_J6_bitCount_0f7a4 : CwOk M_J6_bitCount_0f7a4 yJ6_bitCount_0f7a4 1 := ⟨q_457, q_23, by decide +kernel⟩
theorem cw_X0_read : CwOk M_X0_read yX0_read 2 := ⟨q_1055, q_6, by decide +kernel⟩
theorem cw_X3_reckon : CwOk M_X3_reckon yX3_reckon 3 := ⟨q_467, q_4, by decide +kernel⟩
theorem cw_X3_weigh : CwOk M_X3_weigh yX3_weigh 4 := ⟨q_464, q_4, by decide +kernel⟩
theorem cw_X6_weigh : CwOk M_X6_weigh yX6_weigh 1 := ⟨q_454, q_7, by decide +kernel⟩
theorem cw_X6_partings : CwOk M_X6_partings yX6_partings 0 := ⟨q_507, q_7, by decide +kernel⟩
theorem cw_X7_standing : CwOk M_X7_standing yX7_standing 0 := ⟨q_478, q_8, by decide +kernel⟩
theorem cw_X6_hasMoreThanHalf : CwOk M_X6_hasMoreThanHalf yX6_hasMoreThanHalf 1 := ⟨q_486, q_7, by decide +kernel⟩
theorem cw_X6_partBy : CwOk M_X6_partBy yX6_partBy 3 := ⟨q_482, q_7, by decide +kernel⟩
theorem cw_X0_addWith : CwOk M_X0_addWith yX0_addWith 1 := ⟨q_1267, q_6, by decide +kernel⟩
theorem cw_X0_sift : CwOk M_X0_sift yX0_sift 2 := ⟨q_1259, q_6, by decide +kernel⟩
theorem cw_X0_leftAtWorst : CwOk M_X0_leftAtWorst yX0_leftAtWorst 1 := ⟨q_1282, q_6, by decide +kernel⟩
theorem cw_X0_bestToAsk : CwOk M_X0_bestToAsk yX0_bestToAsk 1 := ⟨q_1278, q_6, by decide +kernel⟩
theorem cw_X1_init : CwOk M_X1_init yX1_init 0 := ⟨q_85, q_3, by decide +kernel⟩
theorem cw_X1_readNumber : CwOk M_X1_readNumber yX1_readNumber 2 := ⟨q_819, q_3, by decide +kernel⟩
theorem cw_X7_init : CwOk M_X7_init yX7_init 0 := ⟨q_214, q_8, by decide +kernel⟩
theorem cw_X5_init : CwOk M_X5_init yX5_init 0 := ⟨q_313, q_9, by decide +kernel⟩
theorem cw_X2_init : CwOk M_X2_init yX2_init 0 := ⟨q_594, q_28, by decide +kernel⟩
theorem cw_X3_forget : CwOk M_X3_forget yX3_forget 0 := ⟨q_111, q_4, by decide +kernel⟩
theorem cw_X3_init : CwOk M_X3_init yX3_init 0 := ⟨q_106, q_4, by decide +kernel⟩
theorem cw_X3_joint : CwOk M_X3_joint yX3_joint 1 := ⟨q_891, q_4, by decide +kernel⟩
theorem cw_X3_emit : CwOk M_X3_emit yX3_emit 1 := ⟨q_867, q_4, by decide +kernel⟩
theorem cw_X4_init : CwOk M_X4_init yX4_init 0 := ⟨q_331, q_10, by decide +kernel⟩
theorem cw_X4_put : CwOk M_X4_put yX4_put 1 := ⟨q_577, q_10, by decide +kernel⟩
theorem cw_X4_putNumber : CwOk M_X4_putNumber yX4_putNumber 1 := ⟨q_581, q_10, by decide +kernel⟩
theorem cw_X4_putMember : CwOk M_X4_putMember yX4_putMember 2 := ⟨q_586, q_10, by decide +kernel⟩
theorem cw_X4_write : CwOk M_X4_write yX4_write 1 := ⟨q_573, q_10, by decide +kernel⟩
theorem cw_X4_signAt : CwOk M_X4_signAt yX4_signAt 1 := ⟨q_1295, q_10, by decide +kernel⟩
theorem cw_X5_isFull : CwOk M_X5_isFull yX5_isFull 0 := ⟨q_903, q_9, by decide +kernel⟩
theorem cw_X5_forget : CwOk M_X5_forget yX5_forget 0 := ⟨q_841, q_9, by decide +kernel⟩
theorem cw_X7_copy : CwOk M_X7_copy yX7_copy 1 := ⟨q_439, q_8, by decide +kernel⟩
theorem cw_X5_put : CwOk M_X5_put yX5_put 2 := ⟨q_617, q_9, by decide +kernel⟩
theorem cw_X5_keep : CwOk M_X5_keep yX5_keep 1 := ⟨q_947, q_9, by decide +kernel⟩
theorem cw_X5_giveBack : CwOk M_X5_giveBack yX5_giveBack 1 := ⟨q_435, q_9, by decide +kernel⟩
theorem cw_X5_copy : CwOk M_X5_copy yX5_copy 1 := ⟨q_613, q_9, by decide +kernel⟩
theorem cw_X6_init : CwOk M_X6_init yX6_init 2 := ⟨q_195, q_7, by decide +kernel⟩
theorem cw_X6_limit : CwOk M_X6_limit yX6_limit 0 := ⟨q_963, q_7, by decide +kernel⟩
theorem cw_X6_members : CwOk M_X6_members yX6_members 0 := ⟨q_1332, q_7, by decide +kernel⟩
theorem cw_X6_partNow : CwOk M_X6_partNow yX6_partNow 1 := ⟨q_450, q_7, by decide +kernel⟩
theorem cw_X6_survivorsNow : CwOk M_X6_survivorsNow yX6_survivorsNow 1 := ⟨q_545, q_7, by decide +kernel⟩
theorem cw_X6_hold : CwOk M_X6_hold yX6_hold 1 := ⟨q_1019, q_7, by decide +kernel⟩
theorem cw_X7_keptBy : CwOk M_X7_keptBy yX7_keptBy 1 := ⟨q_561, q_8, by decide +kernel⟩
theorem cw_X7_worthOf : CwOk M_X7_worthOf yX7_worthOf 1 := ⟨q_565, q_8, by decide +kernel⟩
theorem cw_X7_deliver : CwOk M_X7_deliver yX7_deliver 2 := ⟨q_979, q_8, by decide +kernel⟩
theorem cw_X7_flush : CwOk M_X7_flush yX7_flush 1 := ⟨q_1031, q_8, by decide +kernel⟩
theorem cw_J6_numberOfTrailingZeros_0f7a4 : CwOk M_J6_numberOfTrailingZeros_0f7a4 yJ6_numberOfTrailingZeros_0f7a4 1 := ⟨q_1034, q_23, by decide +kernel⟩
theorem cw_X7_dropMessages : CwOk M_X7_dropMessages yX7_dropMessages 0 := ⟨q_365, q_8, by decide +kernel⟩
theorem cw_X7_changeView : CwOk M_X7_changeView yX7_changeView 2 := ⟨q_1027, q_8, by decide +kernel⟩
theorem cw_X7_post : CwOk M_X7_post yX7_post 3 := ⟨q_975, q_8, by decide +kernel⟩
theorem cw_X7_sendHeld : CwOk M_X7_sendHeld yX7_sendHeld 1 := ⟨q_1039, q_8, by decide +kernel⟩
theorem cw_X6_view : CwOk M_X6_view yX6_view 1 := ⟨q_1023, q_7, by decide +kernel⟩
theorem cw_X6_fewestToFall : CwOk M_X6_fewestToFall yX6_fewestToFall 1 := ⟨q_502, q_7, by decide +kernel⟩
theorem cw_X6_countLameSplits : CwOk M_X6_countLameSplits yX6_countLameSplits 1 := ⟨q_516, q_7, by decide +kernel⟩
theorem cw_X11_allOf : CwOk M_X11_allOf yX11_allOf 1 := ⟨q_358, q_1, by decide +kernel⟩
theorem cw_X7_begin : CwOk M_X7_begin yX7_begin 2 := ⟨q_355, q_8, by decide +kernel⟩
theorem cw_X7_stands : CwOk M_X7_stands yX7_stands 1 := ⟨q_528, q_8, by decide +kernel⟩
theorem cw_X7_reaches : CwOk M_X7_reaches yX7_reaches 2 := ⟨q_537, q_8, by decide +kernel⟩
theorem cw_X7_keepBack : CwOk M_X7_keepBack yX7_keepBack 2 := ⟨q_971, q_8, by decide +kernel⟩
theorem cw_X7_send : CwOk M_X7_send yX7_send 3 := ⟨q_967, q_8, by decide +kernel⟩
theorem cw_X7_firstOnTheWay : CwOk M_X7_firstOnTheWay yX7_firstOnTheWay 2 := ⟨q_987, q_8, by decide +kernel⟩
theorem cw_X7_take : CwOk M_X7_take yX7_take 1 := ⟨q_983, q_8, by decide +kernel⟩
theorem cw_X7_lose : CwOk M_X7_lose yX7_lose 1 := ⟨q_991, q_8, by decide +kernel⟩
theorem cw_X7_tell : CwOk M_X7_tell yX7_tell 1 := ⟨q_995, q_8, by decide +kernel⟩
theorem cw_X7_stableBy : CwOk M_X7_stableBy yX7_stableBy 1 := ⟨q_1003, q_8, by decide +kernel⟩
theorem cw_X7_trim : CwOk M_X7_trim yX7_trim 1 := ⟨q_999, q_8, by decide +kernel⟩
theorem cw_X7_crash : CwOk M_X7_crash yX7_crash 1 := ⟨q_1007, q_8, by decide +kernel⟩
theorem cw_X7_join : CwOk M_X7_join yX7_join 1 := ⟨q_1011, q_8, by decide +kernel⟩
theorem cw_X7_part : CwOk M_X7_part yX7_part 1 := ⟨q_1015, q_8, by decide +kernel⟩
theorem cw_X7_lackOf : CwOk M_X7_lackOf yX7_lackOf 2 := ⟨q_557, q_8, by decide +kernel⟩
theorem cw_X7_gotByNoneOf : CwOk M_X7_gotByNoneOf yX7_gotByNoneOf 1 := ⟨q_494, q_8, by decide +kernel⟩
theorem cw_X7_sumBehindFlush : CwOk M_X7_sumBehindFlush yX7_sumBehindFlush 2 := ⟨q_553, q_8, by decide +kernel⟩
theorem cw_X7_wouldAgree : CwOk M_X7_wouldAgree yX7_wouldAgree 1 := ⟨q_549, q_8, by decide +kernel⟩
theorem cw_X7_countOnTheWay : CwOk M_X7_countOnTheWay yX7_countOnTheWay 0 := ⟨q_1072, q_8, by decide +kernel⟩
theorem cw_X7_ownersOf : CwOk M_X7_ownersOf yX7_ownersOf 2 := ⟨q_1203, q_8, by decide +kernel⟩
theorem cw_X7_isUntold : CwOk M_X7_isUntold yX7_isUntold 1 := ⟨q_533, q_8, by decide +kernel⟩
theorem cw_X7_countUntold : CwOk M_X7_countUntold yX7_countUntold 0 := ⟨q_524, q_8, by decide +kernel⟩
theorem cw_X7_countLore : CwOk M_X7_countLore yX7_countLore 1 := ⟨q_1306, q_8, by decide +kernel⟩
theorem cw_X7_furthestBehind : CwOk M_X7_furthestBehind yX7_furthestBehind 0 := ⟨q_1317, q_8, by decide +kernel⟩
theorem cw_X8_init : CwOk M_X8_init yX8_init 0 := ⟨q_346, q_11, by decide +kernel⟩
theorem cw_X8_draw : CwOk M_X8_draw yX8_draw 1 := ⟨q_1340, q_11, by decide +kernel⟩
theorem cw_X8_crashOrJoin : CwOk M_X8_crashOrJoin yX8_crashOrJoin 3 := ⟨q_1349, q_11, by decide +kernel⟩
theorem cw_X8_gust : CwOk M_X8_gust yX8_gust 3 := ⟨q_1336, q_11, by decide +kernel⟩
theorem cw_X8_blow : CwOk M_X8_blow yX8_blow 5 := ⟨q_1328, q_11, by decide +kernel⟩
theorem cw_X9_init : CwOk M_X9_init yX9_init 0 := ⟨q_41, q_2, by decide +kernel⟩
theorem cw_X9_hasRoom : CwOk M_X9_hasRoom yX9_hasRoom 0 := ⟨q_419, q_2, by decide +kernel⟩
theorem cw_X9_put : CwOk M_X9_put yX9_put 1 := ⟨q_423, q_2, by decide +kernel⟩
theorem cw_X9_open : CwOk M_X9_open yX9_open 1 := ⟨q_733, q_2, by decide +kernel⟩
theorem cw_X9_skip : CwOk M_X9_skip yX9_skip 0 := ⟨q_888, q_2, by decide +kernel⟩
theorem cw_X9_isLetter : CwOk M_X9_isLetter yX9_isLetter 1 := ⟨q_753, q_2, by decide +kernel⟩
theorem cw_X9_word : CwOk M_X9_word yX9_word 0 := ⟨q_750, q_2, by decide +kernel⟩
theorem cw_X10_init : CwOk M_X10_init yX10_init 0 := ⟨q_133, q_5, by decide +kernel⟩
theorem cw_X10_emit : CwOk M_X10_emit yX10_emit 3 := ⟨q_942, q_5, by decide +kernel⟩
theorem cw_X10_begin : CwOk M_X10_begin yX10_begin 0 := ⟨q_951, q_5, by decide +kernel⟩
theorem cw_X10_score : CwOk M_X10_score yX10_score 1 := ⟨q_1043, q_5, by decide +kernel⟩
theorem cw_X10_doStep : CwOk M_X10_doStep yX10_doStep 3 := ⟨q_959, q_5, by decide +kernel⟩
theorem cw_X11_init : CwOk M_X11_init yX11_init 0 := ⟨q_33, q_1, by decide +kernel⟩
theorem cw_X11_feed : CwOk M_X11_feed yX11_feed 5 := ⟨q_415, q_1, by decide +kernel⟩
theorem cw_X11_fault : CwOk M_X11_fault yX11_fault 0 := ⟨q_427, q_1, by decide +kernel⟩
theorem cw_X11_undo : CwOk M_X11_undo yX11_undo 0 := ⟨q_431, q_1, by decide +kernel⟩
theorem cw_X11_primary : CwOk M_X11_primary yX11_primary 0 := ⟨q_446, q_1, by decide +kernel⟩
theorem cw_X11_lost : CwOk M_X11_lost yX11_lost 0 := ⟨q_490, q_1, by decide +kernel⟩
theorem cw_X11_fall : CwOk M_X11_fall yX11_fall 0 := ⟨q_498, q_1, by decide +kernel⟩
theorem cw_X11_splits : CwOk M_X11_splits yX11_splits 0 := ⟨q_512, q_1, by decide +kernel⟩
theorem cw_X11_tells : CwOk M_X11_tells yX11_tells 0 := ⟨q_520, q_1, by decide +kernel⟩
theorem cw_X11_agree : CwOk M_X11_agree yX11_agree 0 := ⟨q_541, q_1, by decide +kernel⟩
theorem cw_X11_note : CwOk M_X11_note yX11_note 0 := ⟨q_569, q_1, by decide +kernel⟩
theorem cw_X11_image : CwOk M_X11_image yX11_image 0 := ⟨q_590, q_1, by decide +kernel⟩
theorem cw_X11_restore : CwOk M_X11_restore yX11_restore 0 := ⟨q_622, q_1, by decide +kernel⟩
theorem cw_X11_status : CwOk M_X11_status yX11_status 1 := ⟨q_626, q_1, by decide +kernel⟩
theorem cw_X11_count : CwOk M_X11_count yX11_count 1 := ⟨q_633, q_1, by decide +kernel⟩
theorem cw_X12_tellsNothing : CwOk M_X12_tellsNothing yX12_tellsNothing 0 := ⟨q_1373, q_12, by decide +kernel⟩
theorem cw_X12_has : CwOk M_X12_has yX12_has 2 := ⟨q_1380, q_12, by decide +kernel⟩
theorem cw_X12_beginsAnew : CwOk M_X12_beginsAnew yX12_beginsAnew 0 := ⟨q_1377, q_12, by decide +kernel⟩
theorem cw_X12_init : CwOk M_X12_init yX12_init 0 := ⟨q_1366, q_12, by decide +kernel⟩
theorem cw_X12_thrown : CwOk M_X12_thrown yX12_thrown 0 := ⟨q_1496, q_12, by decide +kernel⟩
theorem cw_X12_bad : CwOk M_X12_bad yX12_bad 3 := ⟨q_1511, q_12, by decide +kernel⟩
theorem cw_X12_in : CwOk M_X12_in yX12_in 3 := ⟨q_1507, q_12, by decide +kernel⟩
theorem cw_X12_less : CwOk M_X12_less yX12_less 2 := ⟨q_1734, q_12, by decide +kernel⟩
theorem cw_X12_more : CwOk M_X12_more yX12_more 2 := ⟨q_1737, q_12, by decide +kernel⟩
theorem cw_X12_feed : CwOk M_X12_feed yX12_feed 5 := ⟨q_1500, q_12, by decide +kernel⟩
theorem cw_X12_byteAt : CwOk M_X12_byteAt yX12_byteAt 1 := ⟨q_1523, q_12, by decide +kernel⟩
theorem cw_X12_blanks : CwOk M_X12_blanks yX12_blanks 0 := ⟨q_1519, q_12, by decide +kernel⟩
theorem cw_X12_wrong : CwOk M_X12_wrong yX12_wrong 2 := ⟨q_1545, q_12, by decide +kernel⟩
theorem cw_X12_isDigit : CwOk M_X12_isDigit yX12_isDigit 1 := ⟨q_1556, q_12, by decide +kernel⟩
theorem cw_X12_isSmall : CwOk M_X12_isSmall yX12_isSmall 1 := ⟨q_1538, q_12, by decide +kernel⟩
theorem cw_X12_number : CwOk M_X12_number yX12_number 2 := ⟨q_1553, q_12, by decide +kernel⟩
theorem cw_X12_wordHere : CwOk M_X12_wordHere yX12_wordHere 0 := ⟨q_1535, q_12, by decide +kernel⟩
theorem cw_X12_six : CwOk M_X12_six yX12_six 6 := ⟨q_1541, q_12, by decide +kernel⟩
theorem cw_X12_isWord : CwOk M_X12_isWord yX12_isWord 6 := ⟨q_1531, q_12, by decide +kernel⟩
theorem cw_X12_skipWord : CwOk M_X12_skipWord yX12_skipWord 0 := ⟨q_1549, q_12, by decide +kernel⟩
theorem cw_X12_takes : CwOk M_X12_takes yX12_takes 6 := ⟨q_1597, q_12, by decide +kernel⟩
theorem cw_X12_sign : CwOk M_X12_sign yX12_sign 1 := ⟨q_1561, q_12, by decide +kernel⟩
theorem cw_X12_takesSign : CwOk M_X12_takesSign yX12_takesSign 1 := ⟨q_1601, q_12, by decide +kernel⟩
theorem cw_X12_starts : CwOk M_X12_starts yX12_starts 1 := ⟨q_1515, q_12, by decide +kernel⟩
theorem cw_X12_ends : CwOk M_X12_ends yX12_ends 0 := ⟨q_1565, q_12, by decide +kernel⟩
theorem cw_X12_clause : CwOk M_X12_clause yX12_clause 0 := ⟨q_1527, q_12, by decide +kernel⟩
theorem cw_X12_group : CwOk M_X12_group yX12_group 1 := ⟨q_1504, q_12, by decide +kernel⟩
theorem cw_X12_lays : CwOk M_X12_lays yX12_lays 3 := ⟨q_1604, q_12, by decide +kernel⟩
theorem cw_X12_copies : CwOk M_X12_copies yX12_copies 2 := ⟨q_1627, q_12, by decide +kernel⟩
theorem cw_X12_notes : CwOk M_X12_notes yX12_notes 2 := ⟨q_1589, q_12, by decide +kernel⟩
theorem cw_X12_opensOne : CwOk M_X12_opensOne yX12_opensOne 0 := ⟨q_1585, q_12, by decide +kernel⟩
theorem cw_X12_knownHere : CwOk M_X12_knownHere yX12_knownHere 0 := ⟨q_1593, q_12, by decide +kernel⟩
theorem cw_X12_by : CwOk M_X12_by yX12_by 3 := ⟨q_1731, q_12, by decide +kernel⟩
theorem cw_X12_byLaw : CwOk M_X12_byLaw yX12_byLaw 0 := ⟨q_1728, q_12, by decide +kernel⟩
theorem cw_X12_stepHere : CwOk M_X12_stepHere yX12_stepHere 0 := ⟨q_1624, q_12, by decide +kernel⟩
theorem cw_X12_book : CwOk M_X12_book yX12_book 1 := ⟨q_1608, q_12, by decide +kernel⟩
theorem cw_X12_fault : CwOk M_X12_fault yX12_fault 0 := ⟨q_1612, q_12, by decide +kernel⟩
theorem cw_X12_wide : CwOk M_X12_wide yX12_wide 2 := ⟨q_1651, q_12, by decide +kernel⟩
theorem cw_X12_widens : CwOk M_X12_widens yX12_widens 3 := ⟨q_1655, q_12, by decide +kernel⟩
theorem cw_X12_entryOf : CwOk M_X12_entryOf yX12_entryOf 2 := ⟨q_1661, q_12, by decide +kernel⟩
theorem cw_X12_logs : CwOk M_X12_logs yX12_logs 2 := ⟨q_1658, q_12, by decide +kernel⟩
theorem cw_X12_ones : CwOk M_X12_ones yX12_ones 1 := ⟨q_1720, q_12, by decide +kernel⟩
theorem cw_X12_isInside : CwOk M_X12_isInside yX12_isInside 2 := ⟨q_1642, q_12, by decide +kernel⟩
theorem cw_X12_reaches : CwOk M_X12_reaches yX12_reaches 3 := ⟨q_1672, q_12, by decide +kernel⟩
theorem cw_X12_knownOf : CwOk M_X12_knownOf yX12_knownOf 2 := ⟨q_1648, q_12, by decide +kernel⟩
theorem cw_X12_delivers : CwOk M_X12_delivers yX12_delivers 3 := ⟨q_1645, q_12, by decide +kernel⟩
theorem cw_X12_sends : CwOk M_X12_sends yX12_sends 3 := ⟨q_1639, q_12, by decide +kernel⟩
theorem cw_X12_nextOf : CwOk M_X12_nextOf yX12_nextOf 3 := ⟨q_1669, q_12, by decide +kernel⟩
theorem cw_X12_takesOne : CwOk M_X12_takesOne yX12_takesOne 3 := ⟨q_1665, q_12, by decide +kernel⟩
theorem cw_X12_tellsOthers : CwOk M_X12_tellsOthers yX12_tellsOthers 2 := ⟨q_1676, q_12, by decide +kernel⟩
theorem cw_X12_stableBy : CwOk M_X12_stableBy yX12_stableBy 2 := ⟨q_1684, q_12, by decide +kernel⟩
theorem cw_X12_trims : CwOk M_X12_trims yX12_trims 2 := ⟨q_1680, q_12, by decide +kernel⟩
theorem cw_X12_forgets : CwOk M_X12_forgets yX12_forgets 2 := ⟨q_1690, q_12, by decide +kernel⟩
theorem cw_X12_crashes : CwOk M_X12_crashes yX12_crashes 2 := ⟨q_1687, q_12, by decide +kernel⟩
theorem cw_X12_joins : CwOk M_X12_joins yX12_joins 2 := ⟨q_1693, q_12, by decide +kernel⟩
theorem cw_X12_weightBy : CwOk M_X12_weightBy yX12_weightBy 4 := ⟨q_1724, q_12, by decide +kernel⟩
theorem cw_X12_weight : CwOk M_X12_weight yX12_weight 2 := ⟨q_1717, q_12, by decide +kernel⟩
theorem cw_X12_weigh : CwOk M_X12_weigh yX12_weigh 2 := ⟨q_1713, q_12, by decide +kernel⟩
theorem cw_X12_primaryBy : CwOk M_X12_primaryBy yX12_primaryBy 3 := ⟨q_1709, q_12, by decide +kernel⟩
theorem cw_X12_primaryOf : CwOk M_X12_primaryOf yX12_primaryOf 1 := ⟨q_1705, q_12, by decide +kernel⟩
theorem cw_X12_survivors : CwOk M_X12_survivors yX12_survivors 1 := ⟨q_1701, q_12, by decide +kernel⟩
theorem cw_X12_keptBy : CwOk M_X12_keptBy yX12_keptBy 2 := ⟨q_1749, q_12, by decide +kernel⟩
theorem cw_X12_missingOf : CwOk M_X12_missingOf yX12_missingOf 2 := ⟨q_1820, q_12, by decide +kernel⟩
theorem cw_X12_flushes : CwOk M_X12_flushes yX12_flushes 2 := ⟨q_1745, q_12, by decide +kernel⟩
theorem cw_X12_holds : CwOk M_X12_holds yX12_holds 1 := ⟨q_1697, q_12, by decide +kernel⟩
theorem cw_X12_least : CwOk M_X12_least yX12_least 1 := ⟨q_1752, q_12, by decide +kernel⟩
theorem cw_X12_comesIn : CwOk M_X12_comesIn yX12_comesIn 3 := ⟨q_1756, q_12, by decide +kernel⟩
theorem cw_X12_leavesOut : CwOk M_X12_leavesOut yX12_leavesOut 2 := ⟨q_1760, q_12, by decide +kernel⟩
theorem cw_X12_sendsHeld : CwOk M_X12_sendsHeld yX12_sendsHeld 1 := ⟨q_1764, q_12, by decide +kernel⟩
theorem cw_X12_views : CwOk M_X12_views yX12_views 1 := ⟨q_1741, q_12, by decide +kernel⟩
theorem cw_X12_does : CwOk M_X12_does yX12_does 2 := ⟨q_1635, q_12, by decide +kernel⟩
theorem cw_X12_undo : CwOk M_X12_undo yX12_undo 0 := ⟨q_1768, q_12, by decide +kernel⟩
theorem cw_X12_told : CwOk M_X12_told yX12_told 1 := ⟨q_1772, q_12, by decide +kernel⟩
theorem cw_X12_isMember : CwOk M_X12_isMember yX12_isMember 1 := ⟨q_1780, q_12, by decide +kernel⟩
theorem cw_X12_member : CwOk M_X12_member yX12_member 2 := ⟨q_1776, q_12, by decide +kernel⟩
theorem cw_X12_tally : CwOk M_X12_tally yX12_tally 1 := ⟨q_1784, q_12, by decide +kernel⟩
theorem cw_X12_log : CwOk M_X12_log yX12_log 2 := ⟨q_1788, q_12, by decide +kernel⟩
theorem cw_X12_whoHas : CwOk M_X12_whoHas yX12_whoHas 2 := ⟨q_1796, q_12, by decide +kernel⟩
theorem cw_X12_message : CwOk M_X12_message yX12_message 2 := ⟨q_1792, q_12, by decide +kernel⟩
theorem cw_X12_knows : CwOk M_X12_knows yX12_knows 2 := ⟨q_1800, q_12, by decide +kernel⟩
theorem cw_X12_stable : CwOk M_X12_stable yX12_stable 1 := ⟨q_1804, q_12, by decide +kernel⟩
theorem cw_X12_would : CwOk M_X12_would yX12_would 4 := ⟨q_1808, q_12, by decide +kernel⟩
theorem cw_X12_primary : CwOk M_X12_primary yX12_primary 0 := ⟨q_1812, q_12, by decide +kernel⟩
theorem cw_X12_missing : CwOk M_X12_missing yX12_missing 1 := ⟨q_1816, q_12, by decide +kernel⟩
theorem cw_X12_lost : CwOk M_X12_lost yX12_lost 0 := ⟨q_1824, q_12, by decide +kernel⟩
theorem cw_X12_fall : CwOk M_X12_fall yX12_fall 0 := ⟨q_1828, q_12, by decide +kernel⟩
theorem cw_X12_primaryIf : CwOk M_X12_primaryIf yX12_primaryIf 1 := ⟨q_1836, q_12, by decide +kernel⟩
theorem cw_X12_splits : CwOk M_X12_splits yX12_splits 0 := ⟨q_1832, q_12, by decide +kernel⟩
theorem cw_X12_hasToTell : CwOk M_X12_hasToTell yX12_hasToTell 1 := ⟨q_1844, q_12, by decide +kernel⟩
theorem cw_X12_tells : CwOk M_X12_tells yX12_tells 0 := ⟨q_1840, q_12, by decide +kernel⟩
theorem cw_X12_next : CwOk M_X12_next yX12_next 1 := ⟨q_1848, q_12, by decide +kernel⟩
theorem cw_X12_held : CwOk M_X12_held yX12_held 2 := ⟨q_1852, q_12, by decide +kernel⟩
theorem cw_X12_agreeBy : CwOk M_X12_agreeBy yX12_agreeBy 1 := ⟨q_1860, q_12, by decide +kernel⟩
theorem cw_X12_agree : CwOk M_X12_agree yX12_agree 0 := ⟨q_1856, q_12, by decide +kernel⟩
theorem cw_X12_isSo : CwOk M_X12_isSo yX12_isSo 1 := ⟨q_1868, q_12, by decide +kernel⟩
theorem cw_X12_fits : CwOk M_X12_fits yX12_fits 1 := ⟨q_1864, q_12, by decide +kernel⟩
theorem cw_X12_isTold : CwOk M_X12_isTold yX12_isTold 1 := ⟨q_1876, q_12, by decide +kernel⟩
theorem cw_X12_worstAt : CwOk M_X12_worstAt yX12_worstAt 1 := ⟨q_1880, q_12, by decide +kernel⟩
theorem cw_X12_look : CwOk M_X12_look yX12_look 1 := ⟨q_1872, q_12, by decide +kernel⟩
theorem cw_X12_notesSign : CwOk M_X12_notesSign yX12_notesSign 1 := ⟨q_1892, q_12, by decide +kernel⟩
theorem cw_X12_notesNumber : CwOk M_X12_notesNumber yX12_notesNumber 1 := ⟨q_1896, q_12, by decide +kernel⟩
theorem cw_X12_laysNote : CwOk M_X12_laysNote yX12_laysNote 0 := ⟨q_1888, q_12, by decide +kernel⟩
theorem cw_X12_note : CwOk M_X12_note yX12_note 0 := ⟨q_1884, q_12, by decide +kernel⟩
theorem cw_X12_spelt : CwOk M_X12_spelt yX12_spelt 1 := ⟨q_1900, q_12, by decide +kernel⟩
theorem cw_X12_lore : CwOk M_X12_lore yX12_lore 1 := ⟨q_1904, q_12, by decide +kernel⟩
theorem cw_X12_behind : CwOk M_X12_behind yX12_behind 1 := ⟨q_1908, q_12, by decide +kernel⟩
theorem cw_X12_draw : CwOk M_X12_draw yX12_draw 1 := ⟨q_1927, q_12, by decide +kernel⟩
theorem cw_X12_onceBy : CwOk M_X12_onceBy yX12_onceBy 2 := ⟨q_1923, q_12, by decide +kernel⟩
theorem cw_X12_stormBy : CwOk M_X12_stormBy yX12_stormBy 3 := ⟨q_1919, q_12, by decide +kernel⟩
theorem cw_X12_isStorm : CwOk M_X12_isStorm yX12_isStorm 2 := ⟨q_1915, q_12, by decide +kernel⟩
theorem cw_X12_storm : CwOk M_X12_storm yX12_storm 4 := ⟨q_1912, q_12, by decide +kernel⟩
theorem cw_X12_span : CwOk M_X12_span yX12_span 6 := ⟨q_1932, q_12, by decide +kernel⟩
theorem cw_X12_puts : CwOk M_X12_puts yX12_puts 3 := ⟨q_1944, q_12, by decide +kernel⟩
theorem cw_X12_putsAll : CwOk M_X12_putsAll yX12_putsAll 2 := ⟨q_1940, q_12, by decide +kernel⟩
theorem cw_X12_image : CwOk M_X12_image yX12_image 0 := ⟨q_1936, q_12, by decide +kernel⟩
theorem cw_X12_restore : CwOk M_X12_restore yX12_restore 0 := ⟨q_1948, q_12, by decide +kernel⟩
theorem cw_X12_status : CwOk M_X12_status yX12_status 1 := ⟨q_1952, q_12, by decide +kernel⟩
theorem cw_X12_count : CwOk M_X12_count yX12_count 1 := ⟨q_1956, q_12, by decide +kernel⟩
