/-! the tables' words behind every entry of the machine's tables, by their places -/
set_option maxRecDepth 100000 in
theorem xk_1 : lw_tbl[99]? = some (Cond.code yX6_noneForEachPerson cX6_noneForEachPerson 2 (some (.array .int))) := rfl
set_option maxRecDepth 100000 in
theorem xk_2 : lw_tbl[131]? = some (Cond.code yX0_init cX0_init 1 none) := rfl
set_option maxRecDepth 100000 in
theorem xk_3 : lw_tbl[285]? = some (Cond.code yX0_copyFrom cX0_copyFrom 2 none) := rfl
set_option maxRecDepth 100000 in
theorem xk_4 : lw_tbl[419]? = some (Cond.code yX0_isInRack cX0_isInRack 2 (some .boolean)) := rfl
set_option maxRecDepth 100000 in
theorem xk_5 : lw_tbl[459]? = some (Cond.code yX0_isTagged cX0_isTagged 2 (some .boolean)) := rfl
set_option maxRecDepth 100000 in
theorem xk_6 : lw_tbl[423]? = some (Cond.code yX0_isInPound cX0_isInPound 2 (some .boolean)) := rfl
set_option maxRecDepth 100000 in
theorem xk_7 : lw_tbl[435]? = some (Cond.code yX0_placeInRack cX0_placeInRack 5 none) := rfl
set_option maxRecDepth 100000 in
theorem xk_8 : lw_tbl[447]? = some (Cond.code yX0_leaveRack cX0_leaveRack 2 none) := rfl
set_option maxRecDepth 100000 in
theorem xk_9 : lw_tbl[495]? = some (Cond.code yX0_isDue cX0_isDue 4 (some .boolean)) := rfl
set_option maxRecDepth 100000 in
theorem xk_10 : lw_tbl[685]? = some (Cond.code yX0_countTagged cX0_countTagged 5 (some .int)) := rfl
set_option maxRecDepth 100000 in
theorem xk_11 : lw_tbl[491]? = some (Cond.code yX0_takeTagged cX0_takeTagged 6 (some .int)) := rfl
set_option maxRecDepth 100000 in
theorem xk_12 : lw_tbl[530]? = some (Cond.code yX0_sellFromPound cX0_sellFromPound 3 none) := rfl
set_option maxRecDepth 100000 in
theorem xk_13 : lw_tbl[431]? = some (Cond.code yX0_racksTaken cX0_racksTaken 4 (some .int)) := rfl
set_option maxRecDepth 100000 in
theorem xk_14 : lw_tbl[609]? = some (Cond.code yX0_racksTagged cX0_racksTagged 4 (some .int)) := rfl
set_option maxRecDepth 100000 in
theorem xk_15 : lw_tbl[373]? = some (Cond.code yX6_countPeople cX6_countPeople 3 (some .int)) := rfl
set_option maxRecDepth 100000 in
theorem xk_16 : lw_tbl[644]? = some (Cond.code yX0_countInRacks cX0_countInRacks 1 (some .int)) := rfl
set_option maxRecDepth 100000 in
theorem xk_17 : lw_tbl[649]? = some (Cond.code yX0_countAllTagged cX0_countAllTagged 1 (some .int)) := rfl
set_option maxRecDepth 100000 in
theorem xk_18 : lw_tbl[653]? = some (Cond.code yX0_countInPound cX0_countInPound 1 (some .int)) := rfl
set_option maxRecDepth 100000 in
theorem xk_19 : lw_tbl[657]? = some (Cond.code yX0_countSold cX0_countSold 3 (some .int)) := rfl
set_option maxRecDepth 100000 in
theorem xk_20 : lw_tbl[208]? = some (Cond.code yX3_init cX3_init 1 none) := rfl
set_option maxRecDepth 100000 in
theorem xk_21 : lw_tbl[202]? = some (Cond.code yX1_init cX1_init 1 none) := rfl
set_option maxRecDepth 100000 in
theorem xk_22 : lw_tbl[543]? = some (Cond.code yX1_goToStart cX1_goToStart 1 none) := rfl
set_option maxRecDepth 100000 in
theorem xk_23 : lw_tbl[555]? = some (Cond.code yX3_characterAt cX3_characterAt 2 (some .char)) := rfl
set_option maxRecDepth 100000 in
theorem xk_24 : lw_tbl[551]? = some (Cond.code yX1_readFrom cX1_readFrom 4 (some .boolean)) := rfl
set_option maxRecDepth 100000 in
theorem xk_25 : lw_tbl[563]? = some (Cond.code yX1_readOne cX1_readOne 2 (some .boolean)) := rfl
set_option maxRecDepth 100000 in
theorem xk_26 : lw_tbl[567]? = some (Cond.code yX1_readShed cX1_readShed 1 (some .boolean)) := rfl
set_option maxRecDepth 100000 in
theorem xk_27 : lw_tbl[571]? = some (Cond.code yX1_readNumber cX1_readNumber 1 (some .boolean)) := rfl
set_option maxRecDepth 100000 in
theorem xk_28 : lw_tbl[559]? = some (Cond.code yX1_readDeedOfPerson cX1_readDeedOfPerson 1 (some .boolean)) := rfl
set_option maxRecDepth 100000 in
theorem xk_29 : lw_tbl[547]? = some (Cond.code yX1_readDeed cX1_readDeed 1 (some .boolean)) := rfl
set_option maxRecDepth 100000 in
theorem xk_30 : lw_tbl[575]? = some (Cond.code yX1_readSemicolon cX1_readSemicolon 1 (some .boolean)) := rfl
set_option maxRecDepth 100000 in
theorem xk_31 : lw_tbl[539]? = some (Cond.code yX1_findFault cX1_findFault 2 (some .int)) := rfl
set_option maxRecDepth 100000 in
theorem xk_32 : lw_tbl[186]? = some (Cond.code yX2_init cX2_init 1 none) := rfl
set_option maxRecDepth 100000 in
theorem xk_33 : lw_tbl[346]? = some (Cond.code yX2_dropOldest cX2_dropOldest 3 none) := rfl
set_option maxRecDepth 100000 in
theorem xk_34 : lw_tbl[95]? = some (Cond.code yX4_init cX4_init 1 none) := rfl
set_option maxRecDepth 100000 in
theorem xk_35 : lw_tbl[80]? = some (Cond.code yX5_init cX5_init 1 none) := rfl
set_option maxRecDepth 100000 in
theorem xk_36 : lw_tbl[280]? = some (Cond.code yX4_copyFrom cX4_copyFrom 3 none) := rfl
set_option maxRecDepth 100000 in
theorem xk_37 : lw_tbl[273]? = some (Cond.code yX5_copyFrom cX5_copyFrom 2 none) := rfl
set_option maxRecDepth 100000 in
theorem xk_38 : lw_tbl[349]? = some (Cond.code yX6_copyInto cX6_copyInto 3 (some (.object "BikeSheds$State"))) := rfl
set_option maxRecDepth 100000 in
theorem xk_39 : lw_tbl[342]? = some (Cond.code yX2_record cX2_record 2 none) := rfl
set_option maxRecDepth 100000 in
theorem xk_40 : lw_tbl[717]? = some (Cond.code yX2_takeBack cX2_takeBack 3 (some .boolean)) := rfl
set_option maxRecDepth 100000 in
theorem xk_41 : lw_tbl[699]? = some (Cond.code yX3_codeAt cX3_codeAt 3 (some .int)) := rfl
set_option maxRecDepth 100000 in
theorem xk_42 : lw_tbl[293]? = some (Cond.code yX6_isFrom cX6_isFrom 3 (some .boolean)) := rfl
set_option maxRecDepth 100000 in
theorem xk_43 : lw_tbl[696]? = some (Cond.code yX3_countCharacters cX3_countCharacters 4 (some .int)) := rfl
set_option maxRecDepth 100000 in
theorem xk_44 : lw_tbl[693]? = some (Cond.code yX3_append cX3_append 5 (some .int)) := rfl
set_option maxRecDepth 100000 in
theorem xk_45 : lw_tbl[586]? = some (Cond.code yX3_clear cX3_clear 2 (some .int)) := rfl
set_option maxRecDepth 100000 in
theorem xk_46 : lw_tbl[360]? = some (Cond.code yX6_isShed cX6_isShed 1 (some .boolean)) := rfl
set_option maxRecDepth 100000 in
theorem xk_47 : lw_tbl[364]? = some (Cond.code yX4_hasPermit cX4_hasPermit 2 (some .boolean)) := rfl
set_option maxRecDepth 100000 in
theorem xk_48 : lw_tbl[323]? = some (Cond.code yX4_waitsFor cX4_waitsFor 3 (some .boolean)) := rfl
set_option maxRecDepth 100000 in
theorem xk_49 : lw_tbl[394]? = some (Cond.code yX4_shedsWaitedFor cX4_shedsWaitedFor 4 (some .int)) := rfl
set_option maxRecDepth 100000 in
theorem xk_50 : lw_tbl[390]? = some (Cond.code yX4_waitsForSome cX4_waitsForSome 2 (some .boolean)) := rfl
set_option maxRecDepth 100000 in
theorem xk_51 : lw_tbl[315]? = some (Cond.code yX4_countOf cX4_countOf 4 (some .int)) := rfl
set_option maxRecDepth 100000 in
theorem xk_52 : lw_tbl[635]? = some (Cond.code yX4_countAll cX4_countAll 1 (some .int)) := rfl
set_option maxRecDepth 100000 in
theorem xk_53 : lw_tbl[370]? = some (Cond.code yX4_countWaiting cX4_countWaiting 2 (some .int)) := rfl
set_option maxRecDepth 100000 in
theorem xk_54 : lw_tbl[639]? = some (Cond.code yX4_countAllWaiting cX4_countAllWaiting 3 (some .int)) := rfl
set_option maxRecDepth 100000 in
theorem xk_55 : lw_tbl[334]? = some (Cond.code yX4_leaveLists cX4_leaveLists 5 none) := rfl
set_option maxRecDepth 100000 in
theorem xk_56 : lw_tbl[330]? = some (Cond.code yX4_give cX4_give 5 none) := rfl
set_option maxRecDepth 100000 in
theorem xk_57 : lw_tbl[398]? = some (Cond.code yX4_end cX4_end 2 none) := rfl
set_option maxRecDepth 100000 in
theorem xk_58 : lw_tbl[524]? = some (Cond.code yX4_endBefore cX4_endBefore 3 none) := rfl
set_option maxRecDepth 100000 in
theorem xk_59 : lw_tbl[377]? = some (Cond.code yX4_queue cX4_queue 6 (some .int)) := rfl
set_option maxRecDepth 100000 in
theorem xk_60 : lw_tbl[319]? = some (Cond.code yX4_whoIsAt cX4_whoIsAt 4 (some .int)) := rfl
set_option maxRecDepth 100000 in
theorem xk_61 : lw_tbl[326]? = some (Cond.code yX6_isPerson cX6_isPerson 1 (some .boolean)) := rfl
set_option maxRecDepth 100000 in
theorem xk_62 : lw_tbl[621]? = some (Cond.code yX4_aboutPlace cX4_aboutPlace 5 (some .int)) := rfl
set_option maxRecDepth 100000 in
theorem xk_63 : lw_tbl[308]? = some (Cond.code yJ6_bitCount_0f7a4 cJ6_bitCount_0f7a4 1 (some .int)) := rfl
set_option maxRecDepth 100000 in
theorem xk_64 : lw_tbl[305]? = some (Cond.code yX5_permitsToGive cX5_permitsToGive 2 (some .int)) := rfl
set_option maxRecDepth 100000 in
theorem xk_65 : lw_tbl[301]? = some (Cond.code yX5_moveUp cX5_moveUp 5 none) := rfl
set_option maxRecDepth 100000 in
theorem xk_66 : lw_tbl[290]? = some (Cond.code yX5_changeSetting cX5_changeSetting 4 (some .int)) := rfl
set_option maxRecDepth 100000 in
theorem xk_67 : lw_tbl[357]? = some (Cond.code yX5_askFor cX5_askFor 4 (some .int)) := rfl
set_option maxRecDepth 100000 in
theorem xk_68 : lw_tbl[386]? = some (Cond.code yX5_giveUpAll cX5_giveUpAll 3 (some .int)) := rfl
set_option maxRecDepth 100000 in
theorem xk_69 : lw_tbl[407]? = some (Cond.code yX5_lengthen cX5_lengthen 3 (some .int)) := rfl
set_option maxRecDepth 100000 in
theorem xk_70 : lw_tbl[427]? = some (Cond.code yX5_lowestFreeRack cX5_lowestFreeRack 4 (some .int)) := rfl
set_option maxRecDepth 100000 in
theorem xk_71 : lw_tbl[415]? = some (Cond.code yX5_parkBicycle cX5_parkBicycle 4 (some .int)) := rfl
set_option maxRecDepth 100000 in
theorem xk_72 : lw_tbl[443]? = some (Cond.code yX5_rideAway cX5_rideAway 3 (some .int)) := rfl
set_option maxRecDepth 100000 in
theorem xk_73 : lw_tbl[455]? = some (Cond.code yX5_answerFor cX5_answerFor 3 (some .int)) := rfl
set_option maxRecDepth 100000 in
theorem xk_74 : lw_tbl[467]? = some (Cond.code yX5_fetchFromPound cX5_fetchFromPound 3 (some .int)) := rfl
set_option maxRecDepth 100000 in
theorem xk_75 : lw_tbl[483]? = some (Cond.code yX5_isWithoutPermit cX5_isWithoutPermit 2 (some .boolean)) := rfl
set_option maxRecDepth 100000 in
theorem xk_76 : lw_tbl[479]? = some (Cond.code yX5_looksAbandoned cX5_looksAbandoned 2 (some .boolean)) := rfl
set_option maxRecDepth 100000 in
theorem xk_77 : lw_tbl[487]? = some (Cond.code yX5_latestDueTag cX5_latestDueTag 2 (some .int)) := rfl
set_option maxRecDepth 100000 in
theorem xk_78 : lw_tbl[475]? = some (Cond.code yX5_sweepShed cX5_sweepShed 3 (some .int)) := rfl
set_option maxRecDepth 100000 in
theorem xk_79 : lw_tbl[508]? = some (Cond.code yX6_isRack cX6_isRack 1 (some .boolean)) := rfl
set_option maxRecDepth 100000 in
theorem xk_80 : lw_tbl[505]? = some (Cond.code yX5_changeUse cX5_changeUse 5 (some .int)) := rfl
set_option maxRecDepth 100000 in
theorem xk_81 : lw_tbl[520]? = some (Cond.code yX5_beginDay cX5_beginDay 1 none) := rfl
set_option maxRecDepth 100000 in
theorem xk_82 : lw_tbl[516]? = some (Cond.code yX5_letPass cX5_letPass 4 (some .int)) := rfl
set_option maxRecDepth 100000 in
theorem xk_83 : lw_tbl[666]? = some (Cond.code yX5_passUntilPermit cX5_passUntilPermit 3 (some .int)) := rfl
set_option maxRecDepth 100000 in
theorem xk_84 : lw_tbl[595]? = some (Cond.code yX5_aboutPerson cX5_aboutPerson 3 (some .int)) := rfl
set_option maxRecDepth 100000 in
theorem xk_85 : lw_tbl[613]? = some (Cond.code yX5_racksWithoutPermit cX5_racksWithoutPermit 4 (some .int)) := rfl
set_option maxRecDepth 100000 in
theorem xk_86 : lw_tbl[605]? = some (Cond.code yX5_aboutShed cX5_aboutShed 3 (some .int)) := rfl
set_option maxRecDepth 100000 in
theorem xk_87 : lw_tbl[631]? = some (Cond.code yX5_aboutAll cX5_aboutAll 2 (some .int)) := rfl
set_option maxRecDepth 100000 in
theorem xk_88 : lw_tbl[72]? = some (Cond.code yX6_init cX6_init 1 none) := rfl
set_option maxRecDepth 100000 in
theorem xk_89 : lw_tbl[338]? = some (Cond.code yX6_recorded cX6_recorded 2 (some .int)) := rfl
set_option maxRecDepth 100000 in
theorem xk_90 : lw_tbl[269]? = some (Cond.code yX6_set cX6_set 3 (some .int)) := rfl
set_option maxRecDepth 100000 in
theorem xk_91 : lw_tbl[353]? = some (Cond.code yX6_ask cX6_ask 4 (some .int)) := rfl
set_option maxRecDepth 100000 in
theorem xk_92 : lw_tbl[382]? = some (Cond.code yX6_giveUp cX6_giveUp 2 (some .int)) := rfl
set_option maxRecDepth 100000 in
theorem xk_93 : lw_tbl[403]? = some (Cond.code yX6_prolong cX6_prolong 3 (some .int)) := rfl
set_option maxRecDepth 100000 in
theorem xk_94 : lw_tbl[411]? = some (Cond.code yX6_park cX6_park 2 (some .int)) := rfl
set_option maxRecDepth 100000 in
theorem xk_95 : lw_tbl[439]? = some (Cond.code yX6_ride cX6_ride 2 (some .int)) := rfl
set_option maxRecDepth 100000 in
theorem xk_96 : lw_tbl[451]? = some (Cond.code yX6_answer cX6_answer 2 (some .int)) := rfl
set_option maxRecDepth 100000 in
theorem xk_97 : lw_tbl[463]? = some (Cond.code yX6_fetch cX6_fetch 2 (some .int)) := rfl
set_option maxRecDepth 100000 in
theorem xk_98 : lw_tbl[471]? = some (Cond.code yX6_sweep cX6_sweep 2 (some .int)) := rfl
set_option maxRecDepth 100000 in
theorem xk_99 : lw_tbl[501]? = some (Cond.code yX6_use cX6_use 4 (some .int)) := rfl
set_option maxRecDepth 100000 in
theorem xk_100 : lw_tbl[512]? = some (Cond.code yX6_pass cX6_pass 2 (some .int)) := rfl
set_option maxRecDepth 100000 in
theorem xk_101 : lw_tbl[581]? = some (Cond.code yX6_doDeed cX6_doDeed 1 (some .int)) := rfl
set_option maxRecDepth 100000 in
theorem xk_102 : lw_tbl[535]? = some (Cond.code yX6_run cX6_run 3 (some .int)) := rfl
set_option maxRecDepth 100000 in
theorem xk_103 : lw_tbl[590]? = some (Cond.code yX6_person cX6_person 3 (some .int)) := rfl
set_option maxRecDepth 100000 in
theorem xk_104 : lw_tbl[600]? = some (Cond.code yX6_shed cX6_shed 3 (some .int)) := rfl
set_option maxRecDepth 100000 in
theorem xk_105 : lw_tbl[617]? = some (Cond.code yX6_waiting cX6_waiting 4 (some .int)) := rfl
set_option maxRecDepth 100000 in
theorem xk_106 : lw_tbl[627]? = some (Cond.code yX6_count cX6_count 2 (some .int)) := rfl
set_option maxRecDepth 100000 in
theorem xk_107 : lw_tbl[661]? = some (Cond.code yX6_untilPermit cX6_untilPermit 2 (some .int)) := rfl
set_option maxRecDepth 100000 in
theorem xk_108 : lw_tbl[676]? = some (Cond.code yX6_daysToWaitFor cX6_daysToWaitFor 5 (some .int)) := rfl
set_option maxRecDepth 100000 in
theorem xk_109 : lw_tbl[670]? = some (Cond.code yX6_bestShed cX6_bestShed 8 (some .int)) := rfl
set_option maxRecDepth 100000 in
theorem xk_110 : lw_tbl[680]? = some (Cond.code yX6_ifSwept cX6_ifSwept 3 (some .int)) := rfl
set_option maxRecDepth 100000 in
theorem xk_111 : lw_tbl[689]? = some (Cond.code yX6_put cX6_put 3 (some .int)) := rfl
set_option maxRecDepth 100000 in
theorem xk_112 : lw_tbl[705]? = some (Cond.code yX6_wipe cX6_wipe 1 (some .int)) := rfl
set_option maxRecDepth 100000 in
theorem xk_113 : lw_tbl[709]? = some (Cond.code yX6_fault cX6_fault 1 (some .int)) := rfl
set_option maxRecDepth 100000 in
theorem xk_114 : lw_tbl[713]? = some (Cond.code yX6_undo cX6_undo 1 (some .int)) := rfl
set_option maxRecDepth 100000 in
theorem xk_115 : lw_tbl[722]? = some (Cond.code yX6_save cX6_save 2 (some .int)) := rfl
set_option maxRecDepth 100000 in
theorem xk_116 : lw_tbl[727]? = some (Cond.code yX6_restore cX6_restore 3 (some .int)) := rfl
set_option maxRecDepth 100000 in
theorem xk_117 : lw_tbl[736]? = some (Cond.code yX7_personAt cX7_personAt 2 (some .int)) := rfl
set_option maxRecDepth 100000 in
theorem xk_118 : lw_tbl[732]? = some (Cond.code yX7_init cX7_init 3 none) := rfl
set_option maxRecDepth 100000 in
theorem xk_119 : lw_tbl[779]? = some (Cond.code yX7_in cX7_in 6 (some .boolean)) := rfl
set_option maxRecDepth 100000 in
theorem xk_120 : lw_tbl[801]? = some (Cond.code yX7_flag cX7_flag 1 (some .int)) := rfl
set_option maxRecDepth 100000 in
theorem xk_121 : lw_tbl[790]? = some (Cond.code yX7_copies cX7_copies 4 none) := rfl
set_option maxRecDepth 100000 in
theorem xk_122 : lw_tbl[786]? = some (Cond.code yX7_changes cX7_changes 2 none) := rfl
set_option maxRecDepth 100000 in
theorem xk_123 : lw_tbl[812]? = some (Cond.code yX7_placeAt cX7_placeAt 3 (some .int)) := rfl
set_option maxRecDepth 100000 in
theorem xk_124 : lw_tbl[809]? = some (Cond.code yX7_racksInUse cX7_racksInUse 5 (some .int)) := rfl
set_option maxRecDepth 100000 in
theorem xk_125 : lw_tbl[805]? = some (Cond.code yX7_permits cX7_permits 3 (some .int)) := rfl
set_option maxRecDepth 100000 in
theorem xk_126 : lw_tbl[798]? = some (Cond.code yX7_given cX7_given 5 (some .int)) := rfl
set_option maxRecDepth 100000 in
theorem xk_127 : lw_tbl[824]? = some (Cond.code yX7_placeOf cX7_placeOf 6 (some .int)) := rfl
set_option maxRecDepth 100000 in
theorem xk_128 : lw_tbl[859]? = some (Cond.code yX7_waitsFor cX7_waitsFor 5 (some .int)) := rfl
set_option maxRecDepth 100000 in
theorem xk_129 : lw_tbl[820]? = some (Cond.code yX7_leavesLists cX7_leavesLists 6 none) := rfl
set_option maxRecDepth 100000 in
theorem xk_130 : lw_tbl[816]? = some (Cond.code yX7_getsPermit cX7_getsPermit 5 none) := rfl
set_option maxRecDepth 100000 in
theorem xk_131 : lw_tbl[794]? = some (Cond.code yX7_movesUp cX7_movesUp 4 (some .int)) := rfl
set_option maxRecDepth 100000 in
theorem xk_132 : lw_tbl[851]? = some (Cond.code yX7_asksFor cX7_asksFor 6 (some .int)) := rfl
set_option maxRecDepth 100000 in
theorem xk_133 : lw_tbl[863]? = some (Cond.code yX7_endsPermit cX7_endsPermit 3 none) := rfl
set_option maxRecDepth 100000 in
theorem xk_134 : lw_tbl[956]? = some (Cond.code yX7_day cX7_day 4 (some .int)) := rfl
set_option maxRecDepth 100000 in
theorem xk_135 : lw_tbl[952]? = some (Cond.code yX7_days cX7_days 5 (some .int)) := rfl
set_option maxRecDepth 100000 in
theorem xk_136 : lw_tbl[879]? = some (Cond.code yX7_isInRack cX7_isInRack 3 (some .boolean)) := rfl
set_option maxRecDepth 100000 in
theorem xk_137 : lw_tbl[887]? = some (Cond.code yX7_owner cX7_owner 7 (some .int)) := rfl
set_option maxRecDepth 100000 in
theorem xk_138 : lw_tbl[907]? = some (Cond.code yX7_leavesRack cX7_leavesRack 4 none) := rfl
set_option maxRecDepth 100000 in
theorem xk_139 : lw_tbl[935]? = some (Cond.code yX7_sweeps cX7_sweeps 8 (some .int)) := rfl
set_option maxRecDepth 100000 in
theorem xk_140 : lw_tbl[883]? = some (Cond.code yX7_freeRack cX7_freeRack 6 (some .int)) := rfl
set_option maxRecDepth 100000 in
theorem xk_141 : lw_tbl[835]? = some (Cond.code yX7_isPerson cX7_isPerson 1 (some .boolean)) := rfl
set_option maxRecDepth 100000 in
theorem xk_142 : lw_tbl[839]? = some (Cond.code yX7_isShed cX7_isShed 1 (some .boolean)) := rfl
set_option maxRecDepth 100000 in
theorem xk_143 : lw_tbl[843]? = some (Cond.code yX7_areDays cX7_areDays 1 (some .boolean)) := rfl
set_option maxRecDepth 100000 in
theorem xk_144 : lw_tbl[847]? = some (Cond.code yX7_hasPermit cX7_hasPermit 2 (some .boolean)) := rfl
set_option maxRecDepth 100000 in
theorem xk_145 : lw_tbl[832]? = some (Cond.code yX7_askError cX7_askError 4 (some .int)) := rfl
set_option maxRecDepth 100000 in
theorem xk_146 : lw_tbl[875]? = some (Cond.code yX7_parkError cX7_parkError 2 (some .int)) := rfl
set_option maxRecDepth 100000 in
theorem xk_147 : lw_tbl[899]? = some (Cond.code yX7_rackError cX7_rackError 2 (some .int)) := rfl
set_option maxRecDepth 100000 in
theorem xk_148 : lw_tbl[923]? = some (Cond.code yX7_fetchError cX7_fetchError 2 (some .int)) := rfl
set_option maxRecDepth 100000 in
theorem xk_149 : lw_tbl[948]? = some (Cond.code yX7_passError cX7_passError 2 (some .int)) := rfl
set_option maxRecDepth 100000 in
theorem xk_150 : lw_tbl[891]? = some (Cond.code yX7_parks cX7_parks 4 (some .int)) := rfl
set_option maxRecDepth 100000 in
theorem xk_151 : lw_tbl[903]? = some (Cond.code yX7_rides cX7_rides 3 (some .int)) := rfl
set_option maxRecDepth 100000 in
theorem xk_152 : lw_tbl[915]? = some (Cond.code yX7_answers cX7_answers 4 (some .int)) := rfl
set_option maxRecDepth 100000 in
theorem xk_153 : lw_tbl[927]? = some (Cond.code yX7_fetches cX7_fetches 4 (some .int)) := rfl
set_option maxRecDepth 100000 in
theorem xk_154 : lw_tbl[775]? = some (Cond.code yX7_isValue cX7_isValue 2 (some .boolean)) := rfl
set_option maxRecDepth 100000 in
theorem xk_155 : lw_tbl[772]? = some (Cond.code yX7_set cX7_set 5 (some .int)) := rfl
set_option maxRecDepth 100000 in
theorem xk_156 : lw_tbl[828]? = some (Cond.code yX7_ask cX7_ask 5 (some .int)) := rfl
set_option maxRecDepth 100000 in
theorem xk_157 : lw_tbl[855]? = some (Cond.code yX7_giveUp cX7_giveUp 4 (some .int)) := rfl
set_option maxRecDepth 100000 in
theorem xk_158 : lw_tbl[867]? = some (Cond.code yX7_prolong cX7_prolong 4 (some .int)) := rfl
set_option maxRecDepth 100000 in
theorem xk_159 : lw_tbl[871]? = some (Cond.code yX7_park cX7_park 3 (some .int)) := rfl
set_option maxRecDepth 100000 in
theorem xk_160 : lw_tbl[895]? = some (Cond.code yX7_ride cX7_ride 3 (some .int)) := rfl
set_option maxRecDepth 100000 in
theorem xk_161 : lw_tbl[911]? = some (Cond.code yX7_answer cX7_answer 3 (some .int)) := rfl
set_option maxRecDepth 100000 in
theorem xk_162 : lw_tbl[919]? = some (Cond.code yX7_fetch cX7_fetch 3 (some .int)) := rfl
set_option maxRecDepth 100000 in
theorem xk_163 : lw_tbl[931]? = some (Cond.code yX7_sweep cX7_sweep 2 (some .int)) := rfl
set_option maxRecDepth 100000 in
theorem xk_164 : lw_tbl[939]? = some (Cond.code yX7_use cX7_use 5 (some .int)) := rfl
set_option maxRecDepth 100000 in
theorem xk_165 : lw_tbl[944]? = some (Cond.code yX7_pass cX7_pass 3 (some .int)) := rfl
set_option maxRecDepth 100000 in
theorem xk_166 : lw_tbl[964]? = some (Cond.code yX7_daysSince cX7_daysSince 2 (some .int)) := rfl
set_option maxRecDepth 100000 in
theorem xk_167 : lw_tbl[960]? = some (Cond.code yX7_person cX7_person 4 (some .int)) := rfl
set_option maxRecDepth 100000 in
theorem xk_168 : lw_tbl[972]? = some (Cond.code yX7_racks cX7_racks 7 (some .int)) := rfl
set_option maxRecDepth 100000 in
theorem xk_169 : lw_tbl[968]? = some (Cond.code yX7_shed cX7_shed 3 (some .int)) := rfl
set_option maxRecDepth 100000 in
theorem xk_170 : lw_tbl[976]? = some (Cond.code yX7_waiting cX7_waiting 4 (some .int)) := rfl
set_option maxRecDepth 100000 in
theorem xk_171 : lw_tbl[984]? = some (Cond.code yX7_people cX7_people 5 (some .int)) := rfl
set_option maxRecDepth 100000 in
theorem xk_172 : lw_tbl[980]? = some (Cond.code yX7_count cX7_count 2 (some .int)) := rfl
set_option maxRecDepth 100000 in
theorem xk_173 : lw_tbl[992]? = some (Cond.code yX7_daysTo cX7_daysTo 5 (some .int)) := rfl
set_option maxRecDepth 100000 in
theorem xk_174 : lw_tbl[988]? = some (Cond.code yX7_untilPermit cX7_untilPermit 2 (some .int)) := rfl
set_option maxRecDepth 100000 in
theorem xk_175 : lw_tbl[996]? = some (Cond.code yX7_bestShed cX7_bestShed 10 (some .int)) := rfl
set_option maxRecDepth 100000 in
theorem xk_176 : lw_tbl[1000]? = some (Cond.code yX7_ifSwept cX7_ifSwept 4 (some .int)) := rfl
set_option maxRecDepth 100000 in
theorem xk_177 : lw_tbl[1007]? = some (Cond.code yX7_charactersOf cX7_charactersOf 5 (some .int)) := rfl
set_option maxRecDepth 100000 in
theorem xk_178 : lw_tbl[1004]? = some (Cond.code yX7_put cX7_put 5 (some .int)) := rfl
set_option maxRecDepth 100000 in
theorem xk_179 : lw_tbl[1014]? = some (Cond.code yX7_wipe cX7_wipe 2 (some .int)) := rfl
set_option maxRecDepth 100000 in
theorem xk_180 : lw_tbl[1026]? = some (Cond.code yX7_isHere cX7_isHere 3 (some .boolean)) := rfl
set_option maxRecDepth 100000 in
theorem xk_181 : lw_tbl[1030]? = some (Cond.code yX7_reads cX7_reads 4 (some .int)) := rfl
set_option maxRecDepth 100000 in
theorem xk_182 : lw_tbl[1038]? = some (Cond.code yX7_number cX7_number 3 (some .int)) := rfl
set_option maxRecDepth 100000 in
theorem xk_183 : lw_tbl[1034]? = some (Cond.code yX7_readsShed cX7_readsShed 2 (some .boolean)) := rfl
set_option maxRecDepth 100000 in
theorem xk_184 : lw_tbl[1022]? = some (Cond.code yX7_readsDeed cX7_readsDeed 1 (some .boolean)) := rfl
set_option maxRecDepth 100000 in
theorem xk_185 : lw_tbl[1018]? = some (Cond.code yX7_fault cX7_fault 2 (some .int)) := rfl
set_option maxRecDepth 100000 in
theorem xk_186 : lw_tbl[1047]? = some (Cond.code yX7_deedError cX7_deedError 1 (some .int)) := rfl
set_option maxRecDepth 100000 in
theorem xk_187 : lw_tbl[1051]? = some (Cond.code yX7_does cX7_does 1 (some .int)) := rfl
set_option maxRecDepth 100000 in
theorem xk_188 : lw_tbl[1042]? = some (Cond.code yX7_run cX7_run 5 (some .int)) := rfl
set_option maxRecDepth 100000 in
theorem xk_189 : lw_tbl[1055]? = some (Cond.code yX7_undo cX7_undo 1 (some .int)) := rfl
set_option maxRecDepth 100000 in
theorem xk_190 : lw_tbl[1062]? = some (Cond.code yX7_isSlot cX7_isSlot 1 (some .boolean)) := rfl
set_option maxRecDepth 100000 in
theorem xk_191 : lw_tbl[1059]? = some (Cond.code yX7_save cX7_save 2 (some .int)) := rfl
set_option maxRecDepth 100000 in
theorem xk_192 : lw_tbl[1066]? = some (Cond.code yX7_restore cX7_restore 2 (some .int)) := rfl
