/-! the tables' words behind every entry of the machine's tables, by their places -/
set_option maxRecDepth 100000 in
theorem xk_1 : lw_tbl[52]? = some (Cond.code yX6_noneForEachPerson cX6_noneForEachPerson 2 (some (.array .int))) := rfl
set_option maxRecDepth 100000 in
theorem xk_2 : lw_tbl[84]? = some (Cond.code yX0_init cX0_init 1 none) := rfl
set_option maxRecDepth 100000 in
theorem xk_3 : lw_tbl[226]? = some (Cond.code yX0_copyFrom cX0_copyFrom 2 none) := rfl
set_option maxRecDepth 100000 in
theorem xk_4 : lw_tbl[426]? = some (Cond.code yX0_isInRack cX0_isInRack 2 (some .boolean)) := rfl
set_option maxRecDepth 100000 in
theorem xk_5 : lw_tbl[466]? = some (Cond.code yX0_isTagged cX0_isTagged 2 (some .boolean)) := rfl
set_option maxRecDepth 100000 in
theorem xk_6 : lw_tbl[430]? = some (Cond.code yX0_isInPound cX0_isInPound 2 (some .boolean)) := rfl
set_option maxRecDepth 100000 in
theorem xk_7 : lw_tbl[442]? = some (Cond.code yX0_placeInRack cX0_placeInRack 5 none) := rfl
set_option maxRecDepth 100000 in
theorem xk_8 : lw_tbl[454]? = some (Cond.code yX0_leaveRack cX0_leaveRack 2 none) := rfl
set_option maxRecDepth 100000 in
theorem xk_9 : lw_tbl[502]? = some (Cond.code yX0_isDue cX0_isDue 4 (some .boolean)) := rfl
set_option maxRecDepth 100000 in
theorem xk_10 : lw_tbl[625]? = some (Cond.code yX0_countTagged cX0_countTagged 5 (some .int)) := rfl
set_option maxRecDepth 100000 in
theorem xk_11 : lw_tbl[498]? = some (Cond.code yX0_takeTagged cX0_takeTagged 6 (some .int)) := rfl
set_option maxRecDepth 100000 in
theorem xk_12 : lw_tbl[526]? = some (Cond.code yX0_sellFromPound cX0_sellFromPound 3 none) := rfl
set_option maxRecDepth 100000 in
theorem xk_13 : lw_tbl[438]? = some (Cond.code yX0_racksTaken cX0_racksTaken 4 (some .int)) := rfl
set_option maxRecDepth 100000 in
theorem xk_14 : lw_tbl[585]? = some (Cond.code yX0_racksTagged cX0_racksTagged 4 (some .int)) := rfl
set_option maxRecDepth 100000 in
theorem xk_15 : lw_tbl[314]? = some (Cond.code yX6_countPeople cX6_countPeople 3 (some .int)) := rfl
set_option maxRecDepth 100000 in
theorem xk_16 : lw_tbl[358]? = some (Cond.code yX0_countInRacks cX0_countInRacks 1 (some .int)) := rfl
set_option maxRecDepth 100000 in
theorem xk_17 : lw_tbl[363]? = some (Cond.code yX0_countAllTagged cX0_countAllTagged 1 (some .int)) := rfl
set_option maxRecDepth 100000 in
theorem xk_18 : lw_tbl[367]? = some (Cond.code yX0_countInPound cX0_countInPound 1 (some .int)) := rfl
set_option maxRecDepth 100000 in
theorem xk_19 : lw_tbl[371]? = some (Cond.code yX0_countSold cX0_countSold 3 (some .int)) := rfl
set_option maxRecDepth 100000 in
theorem xk_20 : lw_tbl[161]? = some (Cond.code yX3_init cX3_init 1 none) := rfl
set_option maxRecDepth 100000 in
theorem xk_21 : lw_tbl[155]? = some (Cond.code yX1_init cX1_init 1 none) := rfl
set_option maxRecDepth 100000 in
theorem xk_22 : lw_tbl[139]? = some (Cond.code yX2_init cX2_init 1 none) := rfl
set_option maxRecDepth 100000 in
theorem xk_23 : lw_tbl[287]? = some (Cond.code yX2_dropOldest cX2_dropOldest 3 none) := rfl
set_option maxRecDepth 100000 in
theorem xk_24 : lw_tbl[48]? = some (Cond.code yX4_init cX4_init 1 none) := rfl
set_option maxRecDepth 100000 in
theorem xk_25 : lw_tbl[33]? = some (Cond.code yX5_init cX5_init 1 none) := rfl
set_option maxRecDepth 100000 in
theorem xk_26 : lw_tbl[221]? = some (Cond.code yX4_copyFrom cX4_copyFrom 3 none) := rfl
set_option maxRecDepth 100000 in
theorem xk_27 : lw_tbl[214]? = some (Cond.code yX5_copyFrom cX5_copyFrom 2 none) := rfl
set_option maxRecDepth 100000 in
theorem xk_28 : lw_tbl[290]? = some (Cond.code yX6_copyInto cX6_copyInto 3 (some (.object "BikeSheds$State"))) := rfl
set_option maxRecDepth 100000 in
theorem xk_29 : lw_tbl[283]? = some (Cond.code yX2_record cX2_record 2 none) := rfl
set_option maxRecDepth 100000 in
theorem xk_30 : lw_tbl[379]? = some (Cond.code yX2_takeBack cX2_takeBack 3 (some .boolean)) := rfl
set_option maxRecDepth 100000 in
theorem xk_31 : lw_tbl[301]? = some (Cond.code yX6_isShed cX6_isShed 1 (some .boolean)) := rfl
set_option maxRecDepth 100000 in
theorem xk_32 : lw_tbl[305]? = some (Cond.code yX4_hasPermit cX4_hasPermit 2 (some .boolean)) := rfl
set_option maxRecDepth 100000 in
theorem xk_33 : lw_tbl[264]? = some (Cond.code yX4_waitsFor cX4_waitsFor 3 (some .boolean)) := rfl
set_option maxRecDepth 100000 in
theorem xk_34 : lw_tbl[354]? = some (Cond.code yX4_shedsWaitedFor cX4_shedsWaitedFor 4 (some .int)) := rfl
set_option maxRecDepth 100000 in
theorem xk_35 : lw_tbl[350]? = some (Cond.code yX4_waitsForSome cX4_waitsForSome 2 (some .boolean)) := rfl
set_option maxRecDepth 100000 in
theorem xk_36 : lw_tbl[256]? = some (Cond.code yX4_countOf cX4_countOf 4 (some .int)) := rfl
set_option maxRecDepth 100000 in
theorem xk_37 : lw_tbl[342]? = some (Cond.code yX4_countAll cX4_countAll 1 (some .int)) := rfl
set_option maxRecDepth 100000 in
theorem xk_38 : lw_tbl[311]? = some (Cond.code yX4_countWaiting cX4_countWaiting 2 (some .int)) := rfl
set_option maxRecDepth 100000 in
theorem xk_39 : lw_tbl[346]? = some (Cond.code yX4_countAllWaiting cX4_countAllWaiting 3 (some .int)) := rfl
set_option maxRecDepth 100000 in
theorem xk_40 : lw_tbl[275]? = some (Cond.code yX4_leaveLists cX4_leaveLists 5 none) := rfl
set_option maxRecDepth 100000 in
theorem xk_41 : lw_tbl[271]? = some (Cond.code yX4_give cX4_give 5 none) := rfl
set_option maxRecDepth 100000 in
theorem xk_42 : lw_tbl[405]? = some (Cond.code yX4_end cX4_end 2 none) := rfl
set_option maxRecDepth 100000 in
theorem xk_43 : lw_tbl[520]? = some (Cond.code yX4_endBefore cX4_endBefore 3 none) := rfl
set_option maxRecDepth 100000 in
theorem xk_44 : lw_tbl[318]? = some (Cond.code yX4_queue cX4_queue 6 (some .int)) := rfl
set_option maxRecDepth 100000 in
theorem xk_45 : lw_tbl[260]? = some (Cond.code yX4_whoIsAt cX4_whoIsAt 4 (some .int)) := rfl
set_option maxRecDepth 100000 in
theorem xk_46 : lw_tbl[267]? = some (Cond.code yX6_isPerson cX6_isPerson 1 (some .boolean)) := rfl
set_option maxRecDepth 100000 in
theorem xk_47 : lw_tbl[571]? = some (Cond.code yX4_aboutPlace cX4_aboutPlace 5 (some .int)) := rfl
set_option maxRecDepth 100000 in
theorem xk_48 : lw_tbl[234]? = some (Cond.code yX6_isFrom cX6_isFrom 3 (some .boolean)) := rfl
set_option maxRecDepth 100000 in
theorem xk_49 : lw_tbl[249]? = some (Cond.code yJ6_bitCount_0f7a4 cJ6_bitCount_0f7a4 1 (some .int)) := rfl
set_option maxRecDepth 100000 in
theorem xk_50 : lw_tbl[246]? = some (Cond.code yX5_permitsToGive cX5_permitsToGive 2 (some .int)) := rfl
set_option maxRecDepth 100000 in
theorem xk_51 : lw_tbl[242]? = some (Cond.code yX5_moveUp cX5_moveUp 5 none) := rfl
set_option maxRecDepth 100000 in
theorem xk_52 : lw_tbl[231]? = some (Cond.code yX5_changeSetting cX5_changeSetting 4 (some .int)) := rfl
set_option maxRecDepth 100000 in
theorem xk_53 : lw_tbl[298]? = some (Cond.code yX5_askFor cX5_askFor 4 (some .int)) := rfl
set_option maxRecDepth 100000 in
theorem xk_54 : lw_tbl[400]? = some (Cond.code yX5_giveUpAll cX5_giveUpAll 3 (some .int)) := rfl
set_option maxRecDepth 100000 in
theorem xk_55 : lw_tbl[414]? = some (Cond.code yX5_lengthen cX5_lengthen 3 (some .int)) := rfl
set_option maxRecDepth 100000 in
theorem xk_56 : lw_tbl[434]? = some (Cond.code yX5_lowestFreeRack cX5_lowestFreeRack 4 (some .int)) := rfl
set_option maxRecDepth 100000 in
theorem xk_57 : lw_tbl[422]? = some (Cond.code yX5_parkBicycle cX5_parkBicycle 4 (some .int)) := rfl
set_option maxRecDepth 100000 in
theorem xk_58 : lw_tbl[450]? = some (Cond.code yX5_rideAway cX5_rideAway 3 (some .int)) := rfl
set_option maxRecDepth 100000 in
theorem xk_59 : lw_tbl[462]? = some (Cond.code yX5_answerFor cX5_answerFor 3 (some .int)) := rfl
set_option maxRecDepth 100000 in
theorem xk_60 : lw_tbl[474]? = some (Cond.code yX5_fetchFromPound cX5_fetchFromPound 3 (some .int)) := rfl
set_option maxRecDepth 100000 in
theorem xk_61 : lw_tbl[490]? = some (Cond.code yX5_isWithoutPermit cX5_isWithoutPermit 2 (some .boolean)) := rfl
set_option maxRecDepth 100000 in
theorem xk_62 : lw_tbl[486]? = some (Cond.code yX5_looksAbandoned cX5_looksAbandoned 2 (some .boolean)) := rfl
set_option maxRecDepth 100000 in
theorem xk_63 : lw_tbl[494]? = some (Cond.code yX5_latestDueTag cX5_latestDueTag 2 (some .int)) := rfl
set_option maxRecDepth 100000 in
theorem xk_64 : lw_tbl[482]? = some (Cond.code yX5_sweepShed cX5_sweepShed 3 (some .int)) := rfl
set_option maxRecDepth 100000 in
theorem xk_65 : lw_tbl[330]? = some (Cond.code yX6_isRack cX6_isRack 1 (some .boolean)) := rfl
set_option maxRecDepth 100000 in
theorem xk_66 : lw_tbl[327]? = some (Cond.code yX5_changeUse cX5_changeUse 5 (some .int)) := rfl
set_option maxRecDepth 100000 in
theorem xk_67 : lw_tbl[516]? = some (Cond.code yX5_beginDay cX5_beginDay 1 none) := rfl
set_option maxRecDepth 100000 in
theorem xk_68 : lw_tbl[512]? = some (Cond.code yX5_letPass cX5_letPass 4 (some .int)) := rfl
set_option maxRecDepth 100000 in
theorem xk_69 : lw_tbl[549]? = some (Cond.code yX5_passUntilPermit cX5_passUntilPermit 3 (some .int)) := rfl
set_option maxRecDepth 100000 in
theorem xk_70 : lw_tbl[539]? = some (Cond.code yX5_aboutPerson cX5_aboutPerson 3 (some .int)) := rfl
set_option maxRecDepth 100000 in
theorem xk_71 : lw_tbl[589]? = some (Cond.code yX5_racksWithoutPermit cX5_racksWithoutPermit 4 (some .int)) := rfl
set_option maxRecDepth 100000 in
theorem xk_72 : lw_tbl[581]? = some (Cond.code yX5_aboutShed cX5_aboutShed 3 (some .int)) := rfl
set_option maxRecDepth 100000 in
theorem xk_73 : lw_tbl[338]? = some (Cond.code yX5_aboutAll cX5_aboutAll 2 (some .int)) := rfl
set_option maxRecDepth 100000 in
theorem xk_74 : lw_tbl[25]? = some (Cond.code yX6_init cX6_init 1 none) := rfl
set_option maxRecDepth 100000 in
theorem xk_75 : lw_tbl[279]? = some (Cond.code yX6_recorded cX6_recorded 2 (some .int)) := rfl
set_option maxRecDepth 100000 in
theorem xk_76 : lw_tbl[210]? = some (Cond.code yX6_set cX6_set 3 (some .int)) := rfl
set_option maxRecDepth 100000 in
theorem xk_77 : lw_tbl[294]? = some (Cond.code yX6_ask cX6_ask 4 (some .int)) := rfl
set_option maxRecDepth 100000 in
theorem xk_78 : lw_tbl[396]? = some (Cond.code yX6_giveUp cX6_giveUp 2 (some .int)) := rfl
set_option maxRecDepth 100000 in
theorem xk_79 : lw_tbl[410]? = some (Cond.code yX6_prolong cX6_prolong 3 (some .int)) := rfl
set_option maxRecDepth 100000 in
theorem xk_80 : lw_tbl[418]? = some (Cond.code yX6_park cX6_park 2 (some .int)) := rfl
set_option maxRecDepth 100000 in
theorem xk_81 : lw_tbl[446]? = some (Cond.code yX6_ride cX6_ride 2 (some .int)) := rfl
set_option maxRecDepth 100000 in
theorem xk_82 : lw_tbl[458]? = some (Cond.code yX6_answer cX6_answer 2 (some .int)) := rfl
set_option maxRecDepth 100000 in
theorem xk_83 : lw_tbl[470]? = some (Cond.code yX6_fetch cX6_fetch 2 (some .int)) := rfl
set_option maxRecDepth 100000 in
theorem xk_84 : lw_tbl[478]? = some (Cond.code yX6_sweep cX6_sweep 2 (some .int)) := rfl
set_option maxRecDepth 100000 in
theorem xk_85 : lw_tbl[323]? = some (Cond.code yX6_use cX6_use 4 (some .int)) := rfl
set_option maxRecDepth 100000 in
theorem xk_86 : lw_tbl[508]? = some (Cond.code yX6_pass cX6_pass 2 (some .int)) := rfl
set_option maxRecDepth 100000 in
theorem xk_87 : lw_tbl[534]? = some (Cond.code yX6_person cX6_person 3 (some .int)) := rfl
set_option maxRecDepth 100000 in
theorem xk_88 : lw_tbl[577]? = some (Cond.code yX6_shed cX6_shed 3 (some .int)) := rfl
set_option maxRecDepth 100000 in
theorem xk_89 : lw_tbl[566]? = some (Cond.code yX6_waiting cX6_waiting 4 (some .int)) := rfl
set_option maxRecDepth 100000 in
theorem xk_90 : lw_tbl[334]? = some (Cond.code yX6_count cX6_count 2 (some .int)) := rfl
set_option maxRecDepth 100000 in
theorem xk_91 : lw_tbl[544]? = some (Cond.code yX6_untilPermit cX6_untilPermit 2 (some .int)) := rfl
set_option maxRecDepth 100000 in
theorem xk_92 : lw_tbl[559]? = some (Cond.code yX6_daysToWaitFor cX6_daysToWaitFor 5 (some .int)) := rfl
set_option maxRecDepth 100000 in
theorem xk_93 : lw_tbl[553]? = some (Cond.code yX6_bestShed cX6_bestShed 8 (some .int)) := rfl
set_option maxRecDepth 100000 in
theorem xk_94 : lw_tbl[620]? = some (Cond.code yX6_ifSwept cX6_ifSwept 3 (some .int)) := rfl
set_option maxRecDepth 100000 in
theorem xk_95 : lw_tbl[375]? = some (Cond.code yX6_undo cX6_undo 1 (some .int)) := rfl
set_option maxRecDepth 100000 in
theorem xk_96 : lw_tbl[605]? = some (Cond.code yX6_save cX6_save 2 (some .int)) := rfl
set_option maxRecDepth 100000 in
theorem xk_97 : lw_tbl[610]? = some (Cond.code yX6_restore cX6_restore 3 (some .int)) := rfl
set_option maxRecDepth 100000 in
theorem xk_98 : lw_tbl[383]? = some (Cond.code yL_cell cL_cell 2 (some .int)) := rfl
set_option maxRecDepth 100000 in
theorem xk_99 : lw_tbl[388]? = some (Cond.code yL_low cL_low 2 (some .int)) := rfl
set_option maxRecDepth 100000 in
theorem xk_100 : lw_tbl[592]? = some (Cond.code yL_ones cL_ones 3 (some .int)) := rfl
set_option maxRecDepth 100000 in
theorem xk_101 : lw_tbl[392]? = some (Cond.code yL_act cL_act 5 (some .int)) := rfl
set_option maxRecDepth 100000 in
theorem xk_102 : lw_tbl[562]? = some (Cond.code yL_shed cL_shed 11 (some .boolean)) := rfl
set_option maxRecDepth 100000 in
theorem xk_103 : lw_tbl[530]? = some (Cond.code yL_hangs cL_hangs 11 (some .boolean)) := rfl
set_option maxRecDepth 100000 in
theorem xk_104 : lw_tbl[595]? = some (Cond.code yL_print cL_print 5 (some .long)) := rfl
set_option maxRecDepth 100000 in
theorem xk_105 : lw_tbl[601]? = some (Cond.code yL_waits cL_waits 7 (some .boolean)) := rfl
set_option maxRecDepth 100000 in
theorem xk_106 : lw_tbl[613]? = some (Cond.code yL_asks cL_asks 11 (some .boolean)) := rfl
set_option maxRecDepth 100000 in
theorem xk_107 : lw_tbl[616]? = some (Cond.code yL_sweeps cL_sweeps 11 (some .boolean)) := rfl
