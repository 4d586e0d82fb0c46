theorem kb_6 : (Int8.ofInt 6).toInt32 = 6 := by decide
theorem kb_7 : (Int8.ofInt 7).toInt32 = 7 := by decide
theorem kb_8 : (Int8.ofInt 8).toInt32 = 8 := by decide
theorem kb_9 : (Int8.ofInt 9).toInt32 = 9 := by decide
theorem kb_10 : (Int8.ofInt 10).toInt32 = 10 := by decide
theorem kb_11 : (Int8.ofInt 11).toInt32 = 11 := by decide
theorem kb_12 : (Int8.ofInt 12).toInt32 = 12 := by decide
theorem kb_13 : (Int8.ofInt 13).toInt32 = 13 := by decide
theorem kb_15 : (Int8.ofInt 15).toInt32 = 15 := by decide
theorem kb_16 : (Int8.ofInt 16).toInt32 = 16 := by decide
theorem kb_20 : (Int8.ofInt 20).toInt32 = 20 := by decide
theorem kb_22 : (Int8.ofInt 22).toInt32 = 22 := by decide
theorem kb_23 : (Int8.ofInt 23).toInt32 = 23 := by decide
theorem kb_33 : (Int8.ofInt 33).toInt32 = 33 := by decide
theorem kb_34 : (Int8.ofInt 34).toInt32 = 34 := by decide
theorem kb_48 : (Int8.ofInt 48).toInt32 = 48 := by decide
theorem kb_51 : (Int8.ofInt 51).toInt32 = 51 := by decide
theorem kb_52 : (Int8.ofInt 52).toInt32 = 52 := by decide
theorem kb_53 : (Int8.ofInt 53).toInt32 = 53 := by decide
theorem kb_58 : (Int8.ofInt 58).toInt32 = 58 := by decide
theorem kb_59 : (Int8.ofInt 59).toInt32 = 59 := by decide
theorem kb_60 : (Int8.ofInt 60).toInt32 = 60 := by decide
theorem kb_97 : (Int8.ofInt 97).toInt32 = 97 := by decide
theorem kb_98 : (Int8.ofInt 98).toInt32 = 98 := by decide
theorem kb_100 : (Int8.ofInt 100).toInt32 = 100 := by decide
theorem kb_109 : (Int8.ofInt 109).toInt32 = 109 := by decide
theorem kb_120 : (Int8.ofInt 120).toInt32 = 120 := by decide
theorem kb_123 : (Int8.ofInt 123).toInt32 = 123 := by decide
theorem kb_126 : (Int8.ofInt 126).toInt32 = 126 := by decide
theorem kb_127 : (Int8.ofInt 127).toInt32 = 127 := by decide
theorem ki_m1 : Int32.ofInt (-1) = (-1) := by decide
theorem ki_0 : Int32.ofInt 0 = 0 := by decide
theorem ki_1 : Int32.ofInt 1 = 1 := by decide
theorem ki_2 : Int32.ofInt 2 = 2 := by decide
theorem ki_3 : Int32.ofInt 3 = 3 := by decide
theorem ki_4 : Int32.ofInt 4 = 4 := by decide
theorem ki_5 : Int32.ofInt 5 = 5 := by decide
theorem ks_134 : (Int16.ofInt 134).toInt32 = 134 := by decide
theorem ks_742 : (Int16.ofInt 742).toInt32 = 742 := by decide
theorem ks_817 : (Int16.ofInt 817).toInt32 = 817 := by decide
theorem ks_1000 : (Int16.ofInt 1000).toInt32 = 1000 := by decide
theorem ks_1023 : (Int16.ofInt 1023).toInt32 = 1023 := by decide
theorem ks_4085 : (Int16.ofInt 4085).toInt32 = 4085 := by decide
theorem pn_X0 : plainName RX0 = true := by decide +kernel
theorem pn_X1 : plainName RX1 = true := by decide +kernel
theorem pn_X2 : plainName RX2 = true := by decide +kernel
theorem pn_X3 : plainName RX3 = true := by decide +kernel
theorem pn_X4 : plainName RX4 = true := by decide +kernel
theorem pn_X5 : plainName RX5 = true := by decide +kernel
theorem pn_X6 : plainName RX6 = true := by decide +kernel
theorem pn_X7 : plainName RX7 = true := by decide +kernel
theorem pn_X8 : plainName RX8 = true := by decide +kernel
theorem pn_Jxe99ae : plainName RJxe99ae = true := by decide +kernel
theorem vm_X0_isHere : xVm yX0_isHere cX0_isHere 2 (some .boolean) 1 := ⟨wq150, wq37, wq148, wq149, by decide +kernel, by decide +kernel, by decide +kernel⟩
theorem vm_X0_isInYard : xVm yX0_isInYard cX0_isInYard 2 (some .boolean) 1 := ⟨wq345, wq37, wq343, wq344, by decide +kernel, by decide +kernel, by decide +kernel⟩
theorem vm_X0_number : xVm yX0_number cX0_number 1 (some .int) 0 := ⟨wq252, wq37, wq250, wq251, by decide +kernel, by decide +kernel, by decide +kernel⟩
theorem vm_X0_numberInYard : xVm yX0_numberInYard cX0_numberInYard 1 (some .int) 0 := ⟨wq1077, wq37, wq1075, wq1076, by decide +kernel, by decide +kernel, by decide +kernel⟩
theorem vm_X0_mask : xVm yX0_mask cX0_mask 3 (some .int) 0 := ⟨wq1073, wq37, wq1071, wq1072, by decide +kernel, by decide +kernel, by decide +kernel⟩
theorem vm_X0_maskOfLate : xVm yX0_maskOfLate cX0_maskOfLate 4 (some .int) 1 := ⟨wq421, wq37, wq419, wq420, by decide +kernel, by decide +kernel, by decide +kernel⟩
theorem vm_X0_lowestFree : xVm yX0_lowestFree cX0_lowestFree 2 (some .int) 0 := ⟨wq146, wq37, wq144, wq145, by decide +kernel, by decide +kernel, by decide +kernel⟩
theorem vm_X0_lowestBesides : xVm yX0_lowestBesides cX0_lowestBesides 3 (some .int) 1 := ⟨wq267, wq37, wq265, wq266, by decide +kernel, by decide +kernel, by decide +kernel⟩
theorem vm_X0_fillPlace : xVm yX0_fillPlace cX0_fillPlace 2 none 1 := ⟨wq211, wq37, wq209, wq210, by decide +kernel, by decide +kernel, by decide +kernel⟩
theorem vm_X0_emptyPlace : xVm yX0_emptyPlace cX0_emptyPlace 2 none 1 := ⟨wq286, wq37, wq284, wq285, by decide +kernel, by decide +kernel, by decide +kernel⟩
theorem vm_X0_leafOnHeap : xVm yX0_leafOnHeap cX0_leafOnHeap 4 (some .int) 2 := ⟨wq271, wq37, wq269, wq270, by decide +kernel, by decide +kernel, by decide +kernel⟩
theorem vm_X0_putOnHeap : xVm yX0_putOnHeap cX0_putOnHeap 3 none 2 := ⟨wq275, wq37, wq273, wq274, by decide +kernel, by decide +kernel, by decide +kernel⟩
theorem vm_X0_copyFrom : xVm yX0_copyFrom cX0_copyFrom 2 none 1 := ⟨wq196, wq37, wq194, wq195, by decide +kernel, by decide +kernel, by decide +kernel⟩
theorem sm_X1_firstOf : xSm yX1_firstOf cX1_firstOf 1 (some .int) 1 := ⟨wq297, wq41, wq296, by decide +kernel, by decide +kernel, by decide +kernel⟩
theorem vm_X1_kindOf : xVm yX1_kindOf cX1_kindOf 4 (some .int) 2 := ⟨wq503, wq41, wq501, wq502, by decide +kernel, by decide +kernel, by decide +kernel⟩
theorem vm_X1_leafOf : xVm yX1_leafOf cX1_leafOf 4 (some .int) 2 := ⟨wq546, wq41, wq544, wq545, by decide +kernel, by decide +kernel, by decide +kernel⟩
theorem vm_X1_branchOf : xVm yX1_branchOf cX1_branchOf 3 (some .int) 2 := ⟨wq550, wq41, wq548, wq549, by decide +kernel, by decide +kernel, by decide +kernel⟩
theorem vm_X1_write : xVm yX1_write cX1_write 6 none 4 := ⟨wq512, wq41, wq510, wq511, by decide +kernel, by decide +kernel, by decide +kernel⟩
theorem vm_X1_fasten : xVm yX1_fasten cX1_fasten 4 none 2 := ⟨wq554, wq41, wq552, wq553, by decide +kernel, by decide +kernel, by decide +kernel⟩
theorem vm_X1_release : xVm yX1_release cX1_release 4 none 2 := ⟨wq294, wq41, wq292, wq293, by decide +kernel, by decide +kernel, by decide +kernel⟩
theorem vm_X1_releaseAll : xVm yX1_releaseAll cX1_releaseAll 3 none 1 := ⟨wq290, wq41, wq288, wq289, by decide +kernel, by decide +kernel, by decide +kernel⟩
theorem vm_X1_pins : xVm yX1_pins cX1_pins 1 (some .int) 0 := ⟨wq1081, wq41, wq1079, wq1080, by decide +kernel, by decide +kernel, by decide +kernel⟩
theorem vm_X1_notes : xVm yX1_notes cX1_notes 1 (some .int) 0 := ⟨wq1085, wq41, wq1083, wq1084, by decide +kernel, by decide +kernel, by decide +kernel⟩
theorem vm_X1_pinsOfChild : xVm yX1_pinsOfChild cX1_pinsOfChild 2 (some .int) 1 := ⟨wq385, wq41, wq383, wq384, by decide +kernel, by decide +kernel, by decide +kernel⟩
theorem vm_X1_notesOfChild : xVm yX1_notesOfChild cX1_notesOfChild 2 (some .int) 1 := ⟨wq1015, wq41, wq1013, wq1014, by decide +kernel, by decide +kernel, by decide +kernel⟩
theorem vm_X1_pinsOn : xVm yX1_pinsOn cX1_pinsOn 2 (some .int) 1 := ⟨wq980, wq41, wq978, wq979, by decide +kernel, by decide +kernel, by decide +kernel⟩
theorem vm_X1_notesOn : xVm yX1_notesOn cX1_notesOn 2 (some .int) 1 := ⟨wq984, wq41, wq982, wq983, by decide +kernel, by decide +kernel, by decide +kernel⟩
theorem vm_X1_pinsOnBy : xVm yX1_pinsOnBy cX1_pinsOnBy 3 (some .int) 2 := ⟨wq976, wq41, wq974, wq975, by decide +kernel, by decide +kernel, by decide +kernel⟩
theorem vm_X1_maskOfHolders : xVm yX1_maskOfHolders cX1_maskOfHolders 4 (some .int) 1 := ⟨wq972, wq41, wq970, wq971, by decide +kernel, by decide +kernel, by decide +kernel⟩
theorem vm_X1_numberOfHook : xVm yX1_numberOfHook cX1_numberOfHook 4 (some .int) 3 := ⟨wq1035, wq41, wq1033, wq1034, by decide +kernel, by decide +kernel, by decide +kernel⟩
theorem vm_X1_copyFrom : xVm yX1_copyFrom cX1_copyFrom 2 none 1 := ⟨wq201, wq41, wq199, wq200, by decide +kernel, by decide +kernel, by decide +kernel⟩
theorem vm_X2_sprout : xVm yX2_sprout cX2_sprout 4 (some .int) 2 := ⟨wq465, wq33, wq463, wq464, by decide +kernel, by decide +kernel, by decide +kernel⟩
theorem vm_X2_putAside : xVm yX2_putAside cX2_putAside 4 none 3 := ⟨wq634, wq33, wq632, wq633, by decide +kernel, by decide +kernel, by decide +kernel⟩
theorem vm_X2_burn : xVm yX2_burn cX2_burn 2 none 1 := ⟨wq655, wq33, wq653, wq654, by decide +kernel, by decide +kernel, by decide +kernel⟩
theorem vm_X2_numberWhere : xVm yX2_numberWhere cX2_numberWhere 2 (some .int) 1 := ⟨wq660, wq33, wq658, wq659, by decide +kernel, by decide +kernel, by decide +kernel⟩
theorem vm_X2_copyFrom : xVm yX2_copyFrom cX2_copyFrom 2 none 1 := ⟨wq182, wq33, wq180, wq181, by decide +kernel, by decide +kernel, by decide +kernel⟩
theorem vm_X3_length : xVm yX3_length cX3_length 1 (some .int) 0 := ⟨wq779, wq24, wq777, wq778, by decide +kernel, by decide +kernel, by decide +kernel⟩
theorem vm_X3_add : xVm yX3_add cX3_add 2 (some .int) 1 := ⟨wq784, wq24, wq782, wq783, by decide +kernel, by decide +kernel, by decide +kernel⟩
theorem vm_X3_empty : xVm yX3_empty cX3_empty 2 (some .int) 0 := ⟨wq798, wq24, wq796, wq797, by decide +kernel, by decide +kernel, by decide +kernel⟩
theorem vm_X3_signAt : xVm yX3_signAt cX3_signAt 2 (some .int) 1 := ⟨wq818, wq24, wq816, wq817, by decide +kernel, by decide +kernel, by decide +kernel⟩
theorem vm_X3_digitAt : xVm yX3_digitAt cX3_digitAt 2 (some .int) 1 := ⟨wq876, wq24, wq874, wq875, by decide +kernel, by decide +kernel, by decide +kernel⟩
theorem vm_X3_branchAt : xVm yX3_branchAt cX3_branchAt 2 (some .int) 1 := ⟨wq880, wq24, wq878, wq879, by decide +kernel, by decide +kernel, by decide +kernel⟩
theorem vm_X3_startsPart : xVm yX3_startsPart cX3_startsPart 2 (some .boolean) 1 := ⟨wq866, wq24, wq864, wq865, by decide +kernel, by decide +kernel, by decide +kernel⟩
theorem vm_X3_firstWrong : xVm yX3_firstWrong cX3_firstWrong 3 (some .int) 0 := ⟨wq810, wq24, wq808, wq809, by decide +kernel, by decide +kernel, by decide +kernel⟩
theorem vm_X3_isComplete : xVm yX3_isComplete cX3_isComplete 3 (some .boolean) 0 := ⟨wq862, wq24, wq860, wq861, by decide +kernel, by decide +kernel, by decide +kernel⟩
theorem vm_X3_fits : xVm yX3_fits cX3_fits 3 (some .boolean) 2 := ⟨wq814, wq24, wq812, wq813, by decide +kernel, by decide +kernel, by decide +kernel⟩
theorem sm_X3_isOrder : xSm yX3_isOrder cX3_isOrder 1 (some .boolean) 1 := ⟨wq822, wq24, wq821, by decide +kernel, by decide +kernel, by decide +kernel⟩
theorem sm_X3_isOperand : xSm yX3_isOperand cX3_isOperand 2 (some .boolean) 2 := ⟨wq831, wq24, wq830, by decide +kernel, by decide +kernel, by decide +kernel⟩
theorem sm_X3_operandAt : xSm yX3_operandAt cX3_operandAt 2 (some .int) 2 := ⟨wq825, wq24, wq824, by decide +kernel, by decide +kernel, by decide +kernel⟩
theorem sm_X3_operandOf : xSm yX3_operandOf cX3_operandOf 4 (some .int) 4 := ⟨wq828, wq24, wq827, by decide +kernel, by decide +kernel, by decide +kernel⟩
theorem vm_X4_get : xVm yX4_get cX4_get 2 (some .int) 1 := ⟨wq154, wq49, wq152, wq153, by decide +kernel, by decide +kernel, by decide +kernel⟩
theorem vm_X4_put : xVm yX4_put cX4_put 3 none 2 := ⟨wq83, wq49, wq81, wq82, by decide +kernel, by decide +kernel, by decide +kernel⟩
theorem vm_X4_add : xVm yX4_add cX4_add 3 none 2 := ⟨wq279, wq49, wq277, wq278, by decide +kernel, by decide +kernel, by decide +kernel⟩
theorem vm_X4_fill : xVm yX4_fill cX4_fill 3 none 1 := ⟨wq65, wq49, wq63, wq64, by decide +kernel, by decide +kernel, by decide +kernel⟩
theorem vm_X4_number : xVm yX4_number cX4_number 6 (some .int) 3 := ⟨wq256, wq49, wq254, wq255, by decide +kernel, by decide +kernel, by decide +kernel⟩
theorem vm_X4_copyFrom : xVm yX4_copyFrom cX4_copyFrom 2 none 1 := ⟨wq187, wq49, wq185, wq186, by decide +kernel, by decide +kernel, by decide +kernel⟩
theorem vm_X5_number : xVm yX5_number cX5_number 1 (some .int) 0 := ⟨wq927, wq20, wq925, wq926, by decide +kernel, by decide +kernel, by decide +kernel⟩
theorem vm_X5_push : xVm yX5_push cX5_push 3 none 1 := ⟨wq158, wq20, wq156, wq157, by decide +kernel, by decide +kernel, by decide +kernel⟩
theorem vm_X5_popInto : xVm yX5_popInto cX5_popInto 4 none 1 := ⟨wq931, wq20, wq929, wq930, by decide +kernel, by decide +kernel, by decide +kernel⟩
theorem vm_X5_placeAt : xVm yX5_placeAt cX5_placeAt 2 (some (.object "PinnedLeaves$Yard")) 1 := ⟨wq168, wq20, wq166, wq167, by decide +kernel, by decide +kernel, by decide +kernel⟩
theorem vm_X6_copyFrom : xVm yX6_copyFrom cX6_copyFrom 2 none 1 := ⟨wq172, wq15, wq170, wq171, by decide +kernel, by decide +kernel, by decide +kernel⟩
theorem vm_X6_addChild : xVm yX6_addChild cX6_addChild 2 (some .int) 0 := ⟨wq206, wq15, wq204, wq205, by decide +kernel, by decide +kernel, by decide +kernel⟩
theorem vm_X6_removeChild : xVm yX6_removeChild cX6_removeChild 6 (some .int) 1 := ⟨wq260, wq15, wq258, wq259, by decide +kernel, by decide +kernel, by decide +kernel⟩
theorem vm_X6_mayGoIn : xVm yX6_mayGoIn cX6_mayGoIn 2 (some .boolean) 1 := ⟨wq340, wq15, wq338, wq339, by decide +kernel, by decide +kernel, by decide +kernel⟩
theorem vm_X6_goIn : xVm yX6_goIn cX6_goIn 2 (some .int) 1 := ⟨wq349, wq15, wq347, wq348, by decide +kernel, by decide +kernel, by decide +kernel⟩
theorem vm_X6_mayLieDown : xVm yX6_mayLieDown cX6_mayLieDown 2 (some .boolean) 1 := ⟨wq377, wq15, wq375, wq376, by decide +kernel, by decide +kernel, by decide +kernel⟩
theorem vm_X6_lieDown : xVm yX6_lieDown cX6_lieDown 3 (some .int) 1 := ⟨wq381, wq15, wq379, wq380, by decide +kernel, by decide +kernel, by decide +kernel⟩
theorem vm_X6_mayStrike : xVm yX6_mayStrike cX6_mayStrike 1 (some .boolean) 0 := ⟨wq417, wq15, wq415, wq416, by decide +kernel, by decide +kernel, by decide +kernel⟩
theorem vm_X6_strike : xVm yX6_strike cX6_strike 1 (some .int) 0 := ⟨wq426, wq15, wq424, wq425, by decide +kernel, by decide +kernel, by decide +kernel⟩
theorem vm_X6_maySprout : xVm yX6_maySprout cX6_maySprout 2 (some .boolean) 1 := ⟨wq459, wq15, wq457, wq458, by decide +kernel, by decide +kernel, by decide +kernel⟩
theorem vm_X6_mayWrite : xVm yX6_mayWrite cX6_mayWrite 4 (some .boolean) 3 := ⟨wq499, wq15, wq497, wq498, by decide +kernel, by decide +kernel, by decide +kernel⟩
theorem vm_X6_write : xVm yX6_write cX6_write 5 (some .int) 3 := ⟨wq508, wq15, wq506, wq507, by decide +kernel, by decide +kernel, by decide +kernel⟩
theorem vm_X6_mayFasten : xVm yX6_mayFasten cX6_mayFasten 3 (some .boolean) 2 := ⟨wq538, wq15, wq536, wq537, by decide +kernel, by decide +kernel, by decide +kernel⟩
theorem vm_X6_fasten : xVm yX6_fasten cX6_fasten 4 (some .int) 2 := ⟨wq542, wq15, wq540, wq541, by decide +kernel, by decide +kernel, by decide +kernel⟩
theorem vm_X6_mayRelease : xVm yX6_mayRelease cX6_mayRelease 3 (some .boolean) 2 := ⟨wq578, wq15, wq576, wq577, by decide +kernel, by decide +kernel, by decide +kernel⟩
theorem vm_X6_release : xVm yX6_release cX6_release 4 (some .int) 2 := ⟨wq582, wq15, wq580, wq581, by decide +kernel, by decide +kernel, by decide +kernel⟩
theorem vm_X6_lookThrough : xVm yX6_lookThrough cX6_lookThrough 4 (some .int) 2 := ⟨wq605, wq15, wq603, wq604, by decide +kernel, by decide +kernel, by decide +kernel⟩
theorem vm_X6_mayTakeOff : xVm yX6_mayTakeOff cX6_mayTakeOff 3 (some .boolean) 2 := ⟨wq622, wq15, wq620, wq621, by decide +kernel, by decide +kernel, by decide +kernel⟩
theorem vm_X6_takeOff : xVm yX6_takeOff cX6_takeOff 5 (some .int) 2 := ⟨wq626, wq15, wq624, wq625, by decide +kernel, by decide +kernel, by decide +kernel⟩
theorem vm_X6_mayExchange : xVm yX6_mayExchange cX6_mayExchange 3 (some .boolean) 2 := ⟨wq704, wq15, wq702, wq703, by decide +kernel, by decide +kernel, by decide +kernel⟩
theorem vm_X6_exchange : xVm yX6_exchange cX6_exchange 4 (some .int) 3 := ⟨wq709, wq15, wq707, wq708, by decide +kernel, by decide +kernel, by decide +kernel⟩
theorem vm_X6_mayClear : xVm yX6_mayClear cX6_mayClear 2 (some .boolean) 1 := ⟨wq734, wq15, wq732, wq733, by decide +kernel, by decide +kernel, by decide +kernel⟩
theorem vm_X6_clear : xVm yX6_clear cX6_clear 7 (some .int) 1 := ⟨wq640, wq15, wq638, wq639, by decide +kernel, by decide +kernel, by decide +kernel⟩
theorem vm_X6_valueOf : xVm yX6_valueOf cX6_valueOf 2 (some .int) 1 := ⟨wq764, wq15, wq762, wq763, by decide +kernel, by decide +kernel, by decide +kernel⟩
theorem vm_X6_change : xVm yX6_change cX6_change 4 (some .int) 2 := ⟨wq760, wq15, wq758, wq759, by decide +kernel, by decide +kernel, by decide +kernel⟩
theorem vm_X6_mayBurn : xVm yX6_mayBurn cX6_mayBurn 6 (some .boolean) 3 := ⟨wq647, wq15, wq645, wq646, by decide +kernel, by decide +kernel, by decide +kernel⟩
theorem vm_X6_burnable : xVm yX6_burnable cX6_burnable 7 (some .int) 3 := ⟨wq1135, wq15, wq1133, wq1134, by decide +kernel, by decide +kernel, by decide +kernel⟩
theorem vm_X6_burnableIfRested : xVm yX6_burnableIfRested cX6_burnableIfRested 4 (some .int) 1 := ⟨wq1199, wq15, wq1197, wq1198, by decide +kernel, by decide +kernel, by decide +kernel⟩
theorem vm_X6_burnableIfAllRested : xVm yX6_burnableIfAllRested cX6_burnableIfAllRested 4 (some .int) 0 := ⟨wq1215, wq15, wq1213, wq1214, by decide +kernel, by decide +kernel, by decide +kernel⟩
theorem vm_X6_bestHeap : xVm yX6_bestHeap cX6_bestHeap 6 (some .int) 0 := ⟨wq1151, wq15, wq1149, wq1150, by decide +kernel, by decide +kernel, by decide +kernel⟩
theorem vm_X6_freedBy : xVm yX6_freedBy cX6_freedBy 5 (some .int) 2 := ⟨wq1171, wq15, wq1169, wq1170, by decide +kernel, by decide +kernel, by decide +kernel⟩
theorem vm_X6_mostPinned : xVm yX6_mostPinned cX6_mostPinned 5 (some .int) 0 := ⟨wq1227, wq15, wq1225, wq1226, by decide +kernel, by decide +kernel, by decide +kernel⟩
theorem vm_X6_whyNotBurnt : xVm yX6_whyNotBurnt cX6_whyNotBurnt 3 (some .int) 1 := ⟨wq1116, wq15, wq1114, wq1115, by decide +kernel, by decide +kernel, by decide +kernel⟩
theorem vm_X6_numberOfLeaf : xVm yX6_numberOfLeaf cX6_numberOfLeaf 3 (some .int) 2 := ⟨wq967, wq15, wq965, wq966, by decide +kernel, by decide +kernel, by decide +kernel⟩
theorem vm_X6_numberOfChild : xVm yX6_numberOfChild cX6_numberOfChild 3 (some .int) 2 := ⟨wq1011, wq15, wq1009, wq1010, by decide +kernel, by decide +kernel, by decide +kernel⟩
theorem vm_X6_numberOfAll : xVm yX6_numberOfAll cX6_numberOfAll 2 (some .int) 1 := ⟨wq1069, wq15, wq1067, wq1068, by decide +kernel, by decide +kernel, by decide +kernel⟩
theorem vm_X7_come : xVm yX7_come cX7_come 1 (some .int) 0 := ⟨wq139, wq2, wq137, wq138, by decide +kernel, by decide +kernel, by decide +kernel⟩
theorem vm_X7_leave : xVm yX7_leave cX7_leave 2 (some .int) 1 := ⟨wq241, wq2, wq239, wq240, by decide +kernel, by decide +kernel, by decide +kernel⟩
theorem vm_X7_enter : xVm yX7_enter cX7_enter 2 (some .int) 1 := ⟨wq336, wq2, wq334, wq335, by decide +kernel, by decide +kernel, by decide +kernel⟩
theorem vm_X7_rest : xVm yX7_rest cX7_rest 2 (some .int) 1 := ⟨wq373, wq2, wq371, wq372, by decide +kernel, by decide +kernel, by decide +kernel⟩
theorem vm_X7_ring : xVm yX7_ring cX7_ring 1 (some .int) 0 := ⟨wq413, wq2, wq411, wq412, by decide +kernel, by decide +kernel, by decide +kernel⟩
theorem vm_X7_grow : xVm yX7_grow cX7_grow 3 (some .int) 2 := ⟨wq446, wq2, wq444, wq445, by decide +kernel, by decide +kernel, by decide +kernel⟩
theorem vm_X7_note : xVm yX7_note cX7_note 4 (some .int) 3 := ⟨wq491, wq2, wq489, wq490, by decide +kernel, by decide +kernel, by decide +kernel⟩
theorem vm_X7_pin : xVm yX7_pin cX7_pin 3 (some .int) 2 := ⟨wq534, wq2, wq532, wq533, by decide +kernel, by decide +kernel, by decide +kernel⟩
theorem vm_X7_loosen : xVm yX7_loosen cX7_loosen 3 (some .int) 2 := ⟨wq574, wq2, wq572, wq573, by decide +kernel, by decide +kernel, by decide +kernel⟩
theorem vm_X7_look : xVm yX7_look cX7_look 3 (some .int) 2 := ⟨wq601, wq2, wq599, wq600, by decide +kernel, by decide +kernel, by decide +kernel⟩
theorem vm_X7_take : xVm yX7_take cX7_take 3 (some .int) 2 := ⟨wq618, wq2, wq616, wq617, by decide +kernel, by decide +kernel, by decide +kernel⟩
theorem vm_X7_swap : xVm yX7_swap cX7_swap 4 (some .int) 3 := ⟨wq700, wq2, wq698, wq699, by decide +kernel, by decide +kernel, by decide +kernel⟩
theorem vm_X7_rake : xVm yX7_rake cX7_rake 2 (some .int) 1 := ⟨wq730, wq2, wq728, wq729, by decide +kernel, by decide +kernel, by decide +kernel⟩
theorem vm_X7_set : xVm yX7_set cX7_set 3 (some .int) 2 := ⟨wq750, wq2, wq748, wq749, by decide +kernel, by decide +kernel, by decide +kernel⟩
theorem vm_X7_append : xVm yX7_append cX7_append 2 (some .int) 1 := ⟨wq775, wq2, wq773, wq774, by decide +kernel, by decide +kernel, by decide +kernel⟩
theorem vm_X7_clearBuffer : xVm yX7_clearBuffer cX7_clearBuffer 1 (some .int) 0 := ⟨wq794, wq2, wq792, wq793, by decide +kernel, by decide +kernel, by decide +kernel⟩
theorem vm_X7_firstError : xVm yX7_firstError cX7_firstError 1 (some .int) 0 := ⟨wq806, wq2, wq804, wq805, by decide +kernel, by decide +kernel, by decide +kernel⟩
theorem vm_X7_obey : xVm yX7_obey cX7_obey 3 (some .int) 0 := ⟨wq858, wq2, wq856, wq857, by decide +kernel, by decide +kernel, by decide +kernel⟩
theorem vm_X7_keep : xVm yX7_keep cX7_keep 1 (some .int) 0 := ⟨wq897, wq2, wq895, wq896, by decide +kernel, by decide +kernel, by decide +kernel⟩
theorem vm_X7_goBack : xVm yX7_goBack cX7_goBack 1 (some .int) 0 := ⟨wq912, wq2, wq910, wq911, by decide +kernel, by decide +kernel, by decide +kernel⟩
theorem vm_X7_undo : xVm yX7_undo cX7_undo 1 (some .int) 0 := ⟨wq923, wq2, wq921, wq922, by decide +kernel, by decide +kernel, by decide +kernel⟩
theorem vm_X7_branch : xVm yX7_branch cX7_branch 2 (some .int) 1 := ⟨wq942, wq2, wq940, wq941, by decide +kernel, by decide +kernel, by decide +kernel⟩
theorem vm_X7_leaf : xVm yX7_leaf cX7_leaf 3 (some .int) 2 := ⟨wq955, wq2, wq953, wq954, by decide +kernel, by decide +kernel, by decide +kernel⟩
theorem vm_X7_child : xVm yX7_child cX7_child 3 (some .int) 2 := ⟨wq1007, wq2, wq1005, wq1006, by decide +kernel, by decide +kernel, by decide +kernel⟩
theorem vm_X7_hook : xVm yX7_hook cX7_hook 4 (some .int) 3 := ⟨wq1030, wq2, wq1028, wq1029, by decide +kernel, by decide +kernel, by decide +kernel⟩
theorem vm_X7_heap : xVm yX7_heap cX7_heap 3 (some .int) 2 := ⟨wq1049, wq2, wq1047, wq1048, by decide +kernel, by decide +kernel, by decide +kernel⟩
theorem vm_X7_count : xVm yX7_count cX7_count 2 (some .int) 1 := ⟨wq1061, wq2, wq1059, wq1060, by decide +kernel, by decide +kernel, by decide +kernel⟩
theorem vm_X7_setting : xVm yX7_setting cX7_setting 2 (some .int) 1 := ⟨wq1100, wq2, wq1098, wq1099, by decide +kernel, by decide +kernel, by decide +kernel⟩
theorem vm_X7_why : xVm yX7_why cX7_why 2 (some .int) 1 := ⟨wq1112, wq2, wq1110, wq1111, by decide +kernel, by decide +kernel, by decide +kernel⟩
theorem vm_X7_ifRaked : xVm yX7_ifRaked cX7_ifRaked 3 (some .int) 2 := ⟨wq1131, wq2, wq1129, wq1130, by decide +kernel, by decide +kernel, by decide +kernel⟩
theorem vm_X7_bestRake : xVm yX7_bestRake cX7_bestRake 1 (some .int) 0 := ⟨wq1147, wq2, wq1145, wq1146, by decide +kernel, by decide +kernel, by decide +kernel⟩
theorem vm_X7_ifLoosened : xVm yX7_ifLoosened cX7_ifLoosened 3 (some .int) 2 := ⟨wq1167, wq2, wq1165, wq1166, by decide +kernel, by decide +kernel, by decide +kernel⟩
theorem vm_X7_late : xVm yX7_late cX7_late 1 (some .int) 0 := ⟨wq1183, wq2, wq1181, wq1182, by decide +kernel, by decide +kernel, by decide +kernel⟩
theorem vm_X7_ifRested : xVm yX7_ifRested cX7_ifRested 2 (some .int) 1 := ⟨wq1195, wq2, wq1193, wq1194, by decide +kernel, by decide +kernel, by decide +kernel⟩
theorem vm_X7_ifAllRested : xVm yX7_ifAllRested cX7_ifAllRested 1 (some .int) 0 := ⟨wq1211, wq2, wq1209, wq1210, by decide +kernel, by decide +kernel, by decide +kernel⟩
theorem vm_X7_mostHeld : xVm yX7_mostHeld cX7_mostHeld 1 (some .int) 0 := ⟨wq1223, wq2, wq1221, wq1222, by decide +kernel, by decide +kernel, by decide +kernel⟩
theorem vm_X7_burntShare : xVm yX7_burntShare cX7_burntShare 3 (some .double) 0 := ⟨wq1239, wq2, wq1237, wq1238, by decide +kernel, by decide +kernel, by decide +kernel⟩
theorem vm_X7_fullness : xVm yX7_fullness cX7_fullness 2 (some .float) 0 := ⟨wq1252, wq2, wq1250, wq1251, by decide +kernel, by decide +kernel, by decide +kernel⟩
theorem vm_X7_digest : xVm yX7_digest cX7_digest 4 (some .long) 0 := ⟨wq1265, wq2, wq1263, wq1264, by decide +kernel, by decide +kernel, by decide +kernel⟩
theorem vm_X7_needChild : xVm yX7_needChild cX7_needChild 2 none 1 := ⟨wq245, wq2, wq243, wq244, by decide +kernel, by decide +kernel, by decide +kernel⟩
theorem vm_X7_needHook : xVm yX7_needHook cX7_needHook 3 none 2 := ⟨wq495, wq2, wq493, wq494, by decide +kernel, by decide +kernel, by decide +kernel⟩
theorem vm_X7_needLeaf : xVm yX7_needLeaf cX7_needLeaf 2 none 1 := ⟨wq959, wq2, wq957, wq958, by decide +kernel, by decide +kernel, by decide +kernel⟩
theorem sm_X7_needBranch : xSm yX7_needBranch cX7_needBranch 1 none 1 := ⟨wq450, wq2, wq449, by decide +kernel, by decide +kernel, by decide +kernel⟩
theorem sm_X7_needSetting : xSm yX7_needSetting cX7_needSetting 1 none 1 := ⟨wq753, wq2, wq752, by decide +kernel, by decide +kernel, by decide +kernel⟩
theorem sm_X7_needColour : xSm yX7_needColour cX7_needColour 1 none 1 := ⟨wq453, wq2, wq452, by decide +kernel, by decide +kernel, by decide +kernel⟩
theorem sm_X7_needWhat : xSm yX7_needWhat cX7_needWhat 2 none 2 := ⟨wq963, wq2, wq962, by decide +kernel, by decide +kernel, by decide +kernel⟩
theorem sm_X7_isValueOf : xSm yX7_isValueOf cX7_isValueOf 2 (some .boolean) 2 := ⟨wq756, wq2, wq755, by decide +kernel, by decide +kernel, by decide +kernel⟩
theorem vm_X7_carryOut : xVm yX7_carryOut cX7_carryOut 5 (some .int) 1 := ⟨wq872, wq2, wq870, wq871, by decide +kernel, by decide +kernel, by decide +kernel⟩
theorem vm_X7_counted : xVm yX7_counted cX7_counted 2 (some .int) 1 := ⟨wq1065, wq2, wq1063, wq1064, by decide +kernel, by decide +kernel, by decide +kernel⟩
theorem sm_X7_mixed : xSm yX7_mixed cX7_mixed 4 (some .long) 2 := ⟨wq1269, wq2, wq1268, by decide +kernel, by decide +kernel, by decide +kernel⟩
theorem vm_X7_mixedLeaf : xVm yX7_mixedLeaf cX7_mixedLeaf 7 (some .long) 2 := ⟨wq1274, wq2, wq1272, wq1273, by decide +kernel, by decide +kernel, by decide +kernel⟩
theorem vm_X7_mixedChild : xVm yX7_mixedChild cX7_mixedChild 8 (some .long) 2 := ⟨wq1278, wq2, wq1276, wq1277, by decide +kernel, by decide +kernel, by decide +kernel⟩
theorem vm_X7_mixedText : xVm yX7_mixedText cX7_mixedText 6 (some .long) 1 := ⟨wq1289, wq2, wq1287, wq1288, by decide +kernel, by decide +kernel, by decide +kernel⟩
theorem sm_X7_bitsOf : xSm yX7_bitsOf cX7_bitsOf 9 (some .long) 3 := ⟨wq1283, wq2, wq1282, by decide +kernel, by decide +kernel, by decide +kernel⟩
theorem sm_Jxe99ae_isNaN_b9ae7 : xSm yJxe99ae_isNaN_b9ae7 cJxe99ae_isNaN_b9ae7 2 (some .boolean) 1 := ⟨wq1311, wq1302, wq1310, by decide +kernel, by decide +kernel, by decide +kernel⟩
theorem sm_Jxe99ae_doubleToLongBits_ccdee : xSm yJxe99ae_doubleToLongBits_ccdee cJxe99ae_doubleToLongBits_ccdee 2 (some .long) 1 := ⟨wq1303, wq1302, wq1301, by decide +kernel, by decide +kernel, by decide +kernel⟩
theorem sm_Jxf58ca_isNaN_12338 : xSm yJxf58ca_isNaN_12338 cJxf58ca_isNaN_12338 1 (some .boolean) 1 := ⟨wq1323, wq1314, wq1322, by decide +kernel, by decide +kernel, by decide +kernel⟩
theorem sm_Jxf58ca_floatToIntBits_5c35a : xSm yJxf58ca_floatToIntBits_5c35a cJxf58ca_floatToIntBits_5c35a 1 (some .int) 1 := ⟨wq1315, wq1314, wq1313, by decide +kernel, by decide +kernel, by decide +kernel⟩
theorem vm_X8_thrown : xVm yX8_thrown cX8_thrown 1 (some .int) 0 := ⟨wq233, wq5, wq231, wq232, by decide +kernel, by decide +kernel, by decide +kernel⟩
theorem sm_X8_in : xSm yX8_in cX8_in 3 (some .boolean) 3 := ⟨wq309, wq5, wq308, by decide +kernel, by decide +kernel, by decide +kernel⟩
theorem vm_X8_of : xVm yX8_of cX8_of 3 (some .int) 2 := ⟨wq321, wq5, wq319, wq320, by decide +kernel, by decide +kernel, by decide +kernel⟩
theorem vm_X8_setLeaf : xVm yX8_setLeaf cX8_setLeaf 4 none 3 := ⟨wq329, wq5, wq327, wq328, by decide +kernel, by decide +kernel, by decide +kernel⟩
theorem vm_X8_ofChild : xVm yX8_ofChild cX8_ofChild 3 (some .int) 2 := ⟨wq224, wq5, wq222, wq223, by decide +kernel, by decide +kernel, by decide +kernel⟩
theorem vm_X8_setChild : xVm yX8_setChild cX8_setChild 4 none 3 := ⟨wq122, wq5, wq120, wq121, by decide +kernel, by decide +kernel, by decide +kernel⟩
theorem vm_X8_ofHook : xVm yX8_ofHook cX8_ofHook 4 (some .int) 3 := ⟨wq406, wq5, wq404, wq405, by decide +kernel, by decide +kernel, by decide +kernel⟩
theorem vm_X8_setHook : xVm yX8_setHook cX8_setHook 6 none 5 := ⟨wq130, wq5, wq128, wq129, by decide +kernel, by decide +kernel, by decide +kernel⟩
theorem vm_X8_emptyHooks : xVm yX8_emptyHooks cX8_emptyHooks 3 none 1 := ⟨wq126, wq5, wq124, wq125, by decide +kernel, by decide +kernel, by decide +kernel⟩
theorem vm_X8_clearChild : xVm yX8_clearChild cX8_clearChild 3 none 1 := ⟨wq118, wq5, wq116, wq117, by decide +kernel, by decide +kernel, by decide +kernel⟩
theorem vm_X8_isChild : xVm yX8_isChild cX8_isChild 2 (some .boolean) 1 := ⟨wq306, wq5, wq304, wq305, by decide +kernel, by decide +kernel, by decide +kernel⟩
theorem sm_X8_isHook : xSm yX8_isHook cX8_isHook 1 (some .boolean) 1 := ⟨wq523, wq5, wq522, by decide +kernel, by decide +kernel, by decide +kernel⟩
theorem sm_X8_isBranch : xSm yX8_isBranch cX8_isBranch 1 (some .boolean) 1 := ⟨wq477, wq5, wq476, by decide +kernel, by decide +kernel, by decide +kernel⟩
theorem sm_X8_isColour : xSm yX8_isColour cX8_isColour 1 (some .boolean) 1 := ⟨wq480, wq5, wq479, by decide +kernel, by decide +kernel, by decide +kernel⟩
theorem vm_X8_isLeaf : xVm yX8_isLeaf cX8_isLeaf 2 (some .boolean) 1 := ⟨wq992, wq5, wq990, wq991, by decide +kernel, by decide +kernel, by decide +kernel⟩
theorem vm_X8_isInYard : xVm yX8_isInYard cX8_isInYard 2 (some .boolean) 1 := ⟨wq362, wq5, wq360, wq361, by decide +kernel, by decide +kernel, by decide +kernel⟩
theorem vm_X8_children : xVm yX8_children cX8_children 3 (some .int) 0 := ⟨wq220, wq5, wq218, wq219, by decide +kernel, by decide +kernel, by decide +kernel⟩
theorem vm_X8_hooksOf : xVm yX8_hooksOf cX8_hooksOf 5 (some .int) 2 := ⟨wq402, wq5, wq400, wq401, by decide +kernel, by decide +kernel, by decide +kernel⟩
theorem vm_X8_hooksOn : xVm yX8_hooksOn cX8_hooksOn 6 (some .int) 2 := ⟨wq1000, wq5, wq998, wq999, by decide +kernel, by decide +kernel, by decide +kernel⟩
theorem vm_X8_holders : xVm yX8_holders cX8_holders 7 (some .int) 2 := ⟨wq689, wq5, wq687, wq688, by decide +kernel, by decide +kernel, by decide +kernel⟩
theorem vm_X8_leavesAt : xVm yX8_leavesAt cX8_leavesAt 4 (some .int) 1 := ⟨wq693, wq5, wq691, wq692, by decide +kernel, by decide +kernel, by decide +kernel⟩
theorem vm_X8_isOnHeap : xVm yX8_isOnHeap cX8_isOnHeap 3 (some .boolean) 2 := ⟨wq317, wq5, wq315, wq316, by decide +kernel, by decide +kernel, by decide +kernel⟩
theorem vm_X8_heapOf : xVm yX8_heapOf cX8_heapOf 4 (some .int) 1 := ⟨wq677, wq5, wq675, wq676, by decide +kernel, by decide +kernel, by decide +kernel⟩
theorem vm_X8_onHeap : xVm yX8_onHeap cX8_onHeap 7 (some .int) 2 := ⟨wq313, wq5, wq311, wq312, by decide +kernel, by decide +kernel, by decide +kernel⟩
theorem vm_X8_putOnHeap : xVm yX8_putOnHeap cX8_putOnHeap 3 none 2 := ⟨wq325, wq5, wq323, wq324, by decide +kernel, by decide +kernel, by decide +kernel⟩
theorem vm_X8_mayBurn : xVm yX8_mayBurn cX8_mayBurn 3 (some .boolean) 2 := ⟨wq685, wq5, wq683, wq684, by decide +kernel, by decide +kernel, by decide +kernel⟩
theorem vm_X8_burnable : xVm yX8_burnable cX8_burnable 5 (some .int) 2 := ⟨wq1143, wq5, wq1141, wq1142, by decide +kernel, by decide +kernel, by decide +kernel⟩
theorem vm_X8_record : xVm yX8_record cX8_record 2 none 0 := ⟨wq228, wq5, wq226, wq227, by decide +kernel, by decide +kernel, by decide +kernel⟩
theorem vm_X8_undo : xVm yX8_undo cX8_undo 2 (some .int) 0 := ⟨wq935, wq5, wq933, wq934, by decide +kernel, by decide +kernel, by decide +kernel⟩
theorem vm_X8_keep : xVm yX8_keep cX8_keep 2 (some .int) 0 := ⟨wq904, wq5, wq902, wq903, by decide +kernel, by decide +kernel, by decide +kernel⟩
theorem vm_X8_goBack : xVm yX8_goBack cX8_goBack 2 (some .int) 0 := ⟨wq916, wq5, wq914, wq915, by decide +kernel, by decide +kernel, by decide +kernel⟩
theorem vm_X8_come : xVm yX8_come cX8_come 2 (some .int) 0 := ⟨wq215, wq5, wq213, wq214, by decide +kernel, by decide +kernel, by decide +kernel⟩
theorem vm_X8_leave : xVm yX8_leave cX8_leave 5 (some .int) 1 := ⟨wq302, wq5, wq300, wq301, by decide +kernel, by decide +kernel, by decide +kernel⟩
theorem vm_X8_whyNotEnter : xVm yX8_whyNotEnter cX8_whyNotEnter 2 (some .int) 1 := ⟨wq358, wq5, wq356, wq357, by decide +kernel, by decide +kernel, by decide +kernel⟩
theorem vm_X8_doEnter : xVm yX8_doEnter cX8_doEnter 2 (some .int) 1 := ⟨wq366, wq5, wq364, wq365, by decide +kernel, by decide +kernel, by decide +kernel⟩
theorem vm_X8_enter : xVm yX8_enter cX8_enter 2 (some .int) 1 := ⟨wq354, wq5, wq352, wq353, by decide +kernel, by decide +kernel, by decide +kernel⟩
theorem vm_X8_whyNotRest : xVm yX8_whyNotRest cX8_whyNotRest 2 (some .int) 1 := ⟨wq394, wq5, wq392, wq393, by decide +kernel, by decide +kernel, by decide +kernel⟩
theorem vm_X8_doRest : xVm yX8_doRest cX8_doRest 3 (some .int) 1 := ⟨wq398, wq5, wq396, wq397, by decide +kernel, by decide +kernel, by decide +kernel⟩
theorem vm_X8_rest : xVm yX8_rest cX8_rest 2 (some .int) 1 := ⟨wq390, wq5, wq388, wq389, by decide +kernel, by decide +kernel, by decide +kernel⟩
theorem vm_X8_lateOnes : xVm yX8_lateOnes cX8_lateOnes 3 (some .int) 0 := ⟨wq434, wq5, wq432, wq433, by decide +kernel, by decide +kernel, by decide +kernel⟩
theorem vm_X8_doRing : xVm yX8_doRing cX8_doRing 1 (some .int) 0 := ⟨wq438, wq5, wq436, wq437, by decide +kernel, by decide +kernel, by decide +kernel⟩
theorem vm_X8_ring : xVm yX8_ring cX8_ring 1 (some .int) 0 := ⟨wq430, wq5, wq428, wq429, by decide +kernel, by decide +kernel, by decide +kernel⟩
theorem vm_X8_whyNotGrow : xVm yX8_whyNotGrow cX8_whyNotGrow 3 (some .int) 2 := ⟨wq474, wq5, wq472, wq473, by decide +kernel, by decide +kernel, by decide +kernel⟩
theorem vm_X8_doGrow : xVm yX8_doGrow cX8_doGrow 4 (some .int) 2 := ⟨wq484, wq5, wq482, wq483, by decide +kernel, by decide +kernel, by decide +kernel⟩
theorem vm_X8_grow : xVm yX8_grow cX8_grow 3 (some .int) 2 := ⟨wq470, wq5, wq468, wq469, by decide +kernel, by decide +kernel, by decide +kernel⟩
theorem vm_X8_whyNotNote : xVm yX8_whyNotNote cX8_whyNotNote 4 (some .int) 3 := ⟨wq520, wq5, wq518, wq519, by decide +kernel, by decide +kernel, by decide +kernel⟩
theorem vm_X8_doNote : xVm yX8_doNote cX8_doNote 4 (some .int) 3 := ⟨wq527, wq5, wq525, wq526, by decide +kernel, by decide +kernel, by decide +kernel⟩
theorem vm_X8_note : xVm yX8_note cX8_note 4 (some .int) 3 := ⟨wq516, wq5, wq514, wq515, by decide +kernel, by decide +kernel, by decide +kernel⟩
theorem vm_X8_whyNotPin : xVm yX8_whyNotPin cX8_whyNotPin 3 (some .int) 2 := ⟨wq563, wq5, wq561, wq562, by decide +kernel, by decide +kernel, by decide +kernel⟩
theorem vm_X8_doPin : xVm yX8_doPin cX8_doPin 5 (some .int) 2 := ⟨wq567, wq5, wq565, wq566, by decide +kernel, by decide +kernel, by decide +kernel⟩
theorem vm_X8_pin : xVm yX8_pin cX8_pin 3 (some .int) 2 := ⟨wq559, wq5, wq557, wq558, by decide +kernel, by decide +kernel, by decide +kernel⟩
theorem vm_X8_whyNotUse : xVm yX8_whyNotUse cX8_whyNotUse 3 (some .int) 2 := ⟨wq590, wq5, wq588, wq589, by decide +kernel, by decide +kernel, by decide +kernel⟩
theorem vm_X8_doLoosen : xVm yX8_doLoosen cX8_doLoosen 4 (some .int) 2 := ⟨wq594, wq5, wq592, wq593, by decide +kernel, by decide +kernel, by decide +kernel⟩
theorem vm_X8_loosen : xVm yX8_loosen cX8_loosen 3 (some .int) 2 := ⟨wq586, wq5, wq584, wq585, by decide +kernel, by decide +kernel, by decide +kernel⟩
theorem vm_X8_look : xVm yX8_look cX8_look 4 (some .int) 2 := ⟨wq611, wq5, wq609, wq610, by decide +kernel, by decide +kernel, by decide +kernel⟩
theorem vm_X8_doRake : xVm yX8_doRake cX8_doRake 4 (some .int) 1 := ⟨wq681, wq5, wq679, wq680, by decide +kernel, by decide +kernel, by decide +kernel⟩
theorem vm_X8_whyNotTake : xVm yX8_whyNotTake cX8_whyNotTake 3 (some .int) 2 := ⟨wq669, wq5, wq667, wq668, by decide +kernel, by decide +kernel, by decide +kernel⟩
theorem vm_X8_doTake : xVm yX8_doTake cX8_doTake 6 (some .int) 2 := ⟨wq673, wq5, wq671, wq672, by decide +kernel, by decide +kernel, by decide +kernel⟩
theorem vm_X8_take : xVm yX8_take cX8_take 3 (some .int) 2 := ⟨wq665, wq5, wq663, wq664, by decide +kernel, by decide +kernel, by decide +kernel⟩
theorem vm_X8_whyNotSwap : xVm yX8_whyNotSwap cX8_whyNotSwap 4 (some .int) 3 := ⟨wq719, wq5, wq717, wq718, by decide +kernel, by decide +kernel, by decide +kernel⟩
theorem vm_X8_doSwap : xVm yX8_doSwap cX8_doSwap 4 (some .int) 3 := ⟨wq723, wq5, wq721, wq722, by decide +kernel, by decide +kernel, by decide +kernel⟩
theorem vm_X8_swap : xVm yX8_swap cX8_swap 4 (some .int) 3 := ⟨wq715, wq5, wq713, wq714, by decide +kernel, by decide +kernel, by decide +kernel⟩
theorem vm_X8_whyNotRake : xVm yX8_whyNotRake cX8_whyNotRake 2 (some .int) 1 := ⟨wq743, wq5, wq741, wq742, by decide +kernel, by decide +kernel, by decide +kernel⟩
theorem vm_X8_rake : xVm yX8_rake cX8_rake 2 (some .int) 1 := ⟨wq739, wq5, wq737, wq738, by decide +kernel, by decide +kernel, by decide +kernel⟩
theorem vm_X8_set : xVm yX8_set cX8_set 5 (some .int) 2 := ⟨wq768, wq5, wq766, wq767, by decide +kernel, by decide +kernel, by decide +kernel⟩
theorem vm_X8_append : xVm yX8_append cX8_append 2 (some .int) 1 := ⟨wq789, wq5, wq787, wq788, by decide +kernel, by decide +kernel, by decide +kernel⟩
theorem vm_X8_clearBuffer : xVm yX8_clearBuffer cX8_clearBuffer 2 (some .int) 0 := ⟨wq802, wq5, wq800, wq801, by decide +kernel, by decide +kernel, by decide +kernel⟩
theorem sm_X8_shapeOf : xSm yX8_shapeOf cX8_shapeOf 1 (some .int) 1 := ⟨wq848, wq5, wq847, by decide +kernel, by decide +kernel, by decide +kernel⟩
theorem sm_X8_valueOf : xSm yX8_valueOf cX8_valueOf 4 (some .int) 2 := ⟨wq851, wq5, wq850, by decide +kernel, by decide +kernel, by decide +kernel⟩
theorem vm_X8_readOrder : xVm yX8_readOrder cX8_readOrder 7 (some .int) 1 := ⟨wq844, wq5, wq842, wq843, by decide +kernel, by decide +kernel, by decide +kernel⟩
theorem vm_X8_findError : xVm yX8_findError cX8_findError 2 (some .int) 0 := ⟨wq839, wq5, wq837, wq838, by decide +kernel, by decide +kernel, by decide +kernel⟩
theorem vm_X8_firstError : xVm yX8_firstError cX8_firstError 1 (some .int) 0 := ⟨wq835, wq5, wq833, wq834, by decide +kernel, by decide +kernel, by decide +kernel⟩
theorem vm_X8_canDo : xVm yX8_canDo cX8_canDo 1 (some .boolean) 0 := ⟨wq889, wq5, wq887, wq888, by decide +kernel, by decide +kernel, by decide +kernel⟩
theorem vm_X8_doOrder : xVm yX8_doOrder cX8_doOrder 1 (some .int) 0 := ⟨wq893, wq5, wq891, wq892, by decide +kernel, by decide +kernel, by decide +kernel⟩
theorem vm_X8_obey : xVm yX8_obey cX8_obey 4 (some .int) 0 := ⟨wq885, wq5, wq883, wq884, by decide +kernel, by decide +kernel, by decide +kernel⟩
theorem vm_X8_branch : xVm yX8_branch cX8_branch 2 (some .int) 1 := ⟨wq948, wq5, wq946, wq947, by decide +kernel, by decide +kernel, by decide +kernel⟩
theorem vm_X8_leafNow : xVm yX8_leafNow cX8_leafNow 3 (some .int) 2 := ⟨wq996, wq5, wq994, wq995, by decide +kernel, by decide +kernel, by decide +kernel⟩
theorem vm_X8_leaf : xVm yX8_leaf cX8_leaf 3 (some .int) 2 := ⟨wq988, wq5, wq986, wq987, by decide +kernel, by decide +kernel, by decide +kernel⟩
theorem vm_X8_childNow : xVm yX8_childNow cX8_childNow 3 (some .int) 2 := ⟨wq1023, wq5, wq1021, wq1022, by decide +kernel, by decide +kernel, by decide +kernel⟩
theorem vm_X8_child : xVm yX8_child cX8_child 3 (some .int) 2 := ⟨wq1019, wq5, wq1017, wq1018, by decide +kernel, by decide +kernel, by decide +kernel⟩
theorem vm_X8_hook : xVm yX8_hook cX8_hook 4 (some .int) 3 := ⟨wq1042, wq5, wq1040, wq1041, by decide +kernel, by decide +kernel, by decide +kernel⟩
theorem vm_X8_heap : xVm yX8_heap cX8_heap 3 (some .int) 2 := ⟨wq1054, wq5, wq1052, wq1053, by decide +kernel, by decide +kernel, by decide +kernel⟩
theorem vm_X8_countNow : xVm yX8_countNow cX8_countNow 7 (some .int) 1 := ⟨wq1093, wq5, wq1091, wq1092, by decide +kernel, by decide +kernel, by decide +kernel⟩
theorem vm_X8_count : xVm yX8_count cX8_count 2 (some .int) 1 := ⟨wq1089, wq5, wq1087, wq1088, by decide +kernel, by decide +kernel, by decide +kernel⟩
theorem vm_X8_setting : xVm yX8_setting cX8_setting 2 (some .int) 1 := ⟨wq1105, wq5, wq1103, wq1104, by decide +kernel, by decide +kernel, by decide +kernel⟩
theorem vm_X8_whyNot : xVm yX8_whyNot cX8_whyNot 3 (some .int) 1 := ⟨wq1124, wq5, wq1122, wq1123, by decide +kernel, by decide +kernel, by decide +kernel⟩
theorem vm_X8_why : xVm yX8_why cX8_why 2 (some .int) 1 := ⟨wq1120, wq5, wq1118, wq1119, by decide +kernel, by decide +kernel, by decide +kernel⟩
theorem vm_X8_ifRaked : xVm yX8_ifRaked cX8_ifRaked 3 (some .int) 2 := ⟨wq1139, wq5, wq1137, wq1138, by decide +kernel, by decide +kernel, by decide +kernel⟩
theorem vm_X8_findBestRake : xVm yX8_findBestRake cX8_findBestRake 5 (some .int) 0 := ⟨wq1160, wq5, wq1158, wq1159, by decide +kernel, by decide +kernel, by decide +kernel⟩
theorem vm_X8_bestRake : xVm yX8_bestRake cX8_bestRake 1 (some .int) 0 := ⟨wq1156, wq5, wq1154, wq1155, by decide +kernel, by decide +kernel, by decide +kernel⟩
theorem vm_X8_freedBy : xVm yX8_freedBy cX8_freedBy 5 (some .int) 2 := ⟨wq1179, wq5, wq1177, wq1178, by decide +kernel, by decide +kernel, by decide +kernel⟩
theorem vm_X8_ifLoosened : xVm yX8_ifLoosened cX8_ifLoosened 3 (some .int) 2 := ⟨wq1175, wq5, wq1173, wq1174, by decide +kernel, by decide +kernel, by decide +kernel⟩
theorem vm_X8_late : xVm yX8_late cX8_late 1 (some .int) 0 := ⟨wq1188, wq5, wq1186, wq1187, by decide +kernel, by decide +kernel, by decide +kernel⟩
theorem vm_X8_burnableWithout : xVm yX8_burnableWithout cX8_burnableWithout 5 (some .int) 1 := ⟨wq1207, wq5, wq1205, wq1206, by decide +kernel, by decide +kernel, by decide +kernel⟩
theorem vm_X8_ifRested : xVm yX8_ifRested cX8_ifRested 2 (some .int) 1 := ⟨wq1203, wq5, wq1201, wq1202, by decide +kernel, by decide +kernel, by decide +kernel⟩
theorem vm_X8_ifAllRested : xVm yX8_ifAllRested cX8_ifAllRested 1 (some .int) 0 := ⟨wq1219, wq5, wq1217, wq1218, by decide +kernel, by decide +kernel, by decide +kernel⟩
theorem vm_X8_findMostHeld : xVm yX8_findMostHeld cX8_findMostHeld 5 (some .int) 0 := ⟨wq1235, wq5, wq1233, wq1234, by decide +kernel, by decide +kernel, by decide +kernel⟩
theorem vm_X8_mostHeld : xVm yX8_mostHeld cX8_mostHeld 1 (some .int) 0 := ⟨wq1231, wq5, wq1229, wq1230, by decide +kernel, by decide +kernel, by decide +kernel⟩
theorem vm_X8_shareOfBurnt : xVm yX8_shareOfBurnt cX8_shareOfBurnt 3 (some .double) 0 := ⟨wq1248, wq5, wq1246, wq1247, by decide +kernel, by decide +kernel, by decide +kernel⟩
theorem vm_X8_burntShare : xVm yX8_burntShare cX8_burntShare 1 (some .double) 0 := ⟨wq1244, wq5, wq1242, wq1243, by decide +kernel, by decide +kernel, by decide +kernel⟩
theorem vm_X8_fullnessNow : xVm yX8_fullnessNow cX8_fullnessNow 1 (some .float) 0 := ⟨wq1261, wq5, wq1259, wq1260, by decide +kernel, by decide +kernel, by decide +kernel⟩
theorem vm_X8_fullness : xVm yX8_fullness cX8_fullness 1 (some .float) 0 := ⟨wq1257, wq5, wq1255, wq1256, by decide +kernel, by decide +kernel, by decide +kernel⟩
theorem vm_X8_digest : xVm yX8_digest cX8_digest 5 (some .long) 0 := ⟨wq1293, wq5, wq1291, wq1292, by decide +kernel, by decide +kernel, by decide +kernel⟩
theorem vm_X8_digestOf : xVm yX8_digestOf cX8_digestOf 8 (some .long) 2 := ⟨wq1299, wq5, wq1297, wq1298, by decide +kernel, by decide +kernel, by decide +kernel⟩
theorem none_ne {α : Type} {P : Prop} {x : α} (h : none = some x) : P := nomatch h
theorem sm_inl {α β γ : Type} {a : α} {f : α → Option γ} {g : β → Option γ} {r : Option γ} (h : sm (.inl a) f g = r) : f a = r := h
theorem cst_t {β : Type} {c9 : Prop} [Decidable c9] {A : Option β} {r : β} (h : c9) (hF : A = some r) : (if c9 then A else none) = some r := by rw [if_pos h]; exact hF
theorem cst_f {β : Type} {c9 : Prop} [Decidable c9] {A : Option β} {r : β} (h : ¬ c9) (hF : A = some r) : (if c9 then none else A) = some r := by rw [if_neg h]; exact hF
section YRows
variable {p : Program} {l : Launch} {e : Env} {R : Room} {s : State} {m : MethodId} {args : Array Value} {below : List Frame} {meth : Method} {c : Code} {Q : State → Prop} {b nL : Nat} {P : Heap → Prop} {cells slots pc : Nat} {lv : List (Nat × Value)} {st : List Value} {G : xG} {cc : ByteArray} {own : String} {β : Type} {z : β}
theorem y_idiv (C : xC p m c s args meth G b cc nL own) {x y : Int32} {f : Int32 → Option β} (d : decode cc pc = .ok (.idiv, 1)) (hF : dv x y f = some z) (k : ∀ q, f q = some z → xW p l e R s m args below meth c Q b nL P cells slots (pc + 1) lv (.int q :: st)) : xW p l e R s m args below meth c Q b nL P cells slots pc lv (.int y :: .int x :: st) := x_idiv C d hF (k _)
theorem y_irem (C : xC p m c s args meth G b cc nL own) {x y : Int32} {f : Int32 → Option β} (d : decode cc pc = .ok (.irem, 1)) (hF : rm x y f = some z) (k : ∀ q, f q = some z → xW p l e R s m args below meth c Q b nL P cells slots (pc + 1) lv (.int q :: st)) : xW p l e R s m args below meth c Q b nL P cells slots pc lv (.int y :: .int x :: st) := x_irem C d hF (k _)
theorem y_ddiv (C : xC p m c s args meth G b cc nL own) {x y : UInt64} {f : UInt64 → Option β} (d : decode cc pc = .ok (.ddiv, 1)) (hF : nd (FP.ddiv x y) f = some z) (k : ∀ q, f q = some z → xW p l e R s m args below meth c Q b nL P cells slots (pc + 1) lv (.double q :: st)) : xW p l e R s m args below meth c Q b nL P cells slots pc lv (.double y :: .double x :: st) := x_ddiv C d hF (k _)
theorem y_dmul (C : xC p m c s args meth G b cc nL own) {x y : UInt64} {f : UInt64 → Option β} (d : decode cc pc = .ok (.dmul, 1)) (hF : nd (FP.dmul x y) f = some z) (k : ∀ q, f q = some z → xW p l e R s m args below meth c Q b nL P cells slots (pc + 1) lv (.double q :: st)) : xW p l e R s m args below meth c Q b nL P cells slots pc lv (.double y :: .double x :: st) := x_dmul C d hF (k _)
theorem y_dsub (C : xC p m c s args meth G b cc nL own) {x y : UInt64} {f : UInt64 → Option β} (d : decode cc pc = .ok (.dsub, 1)) (hF : nd (FP.dsub x y) f = some z) (k : ∀ q, f q = some z → xW p l e R s m args below meth c Q b nL P cells slots (pc + 1) lv (.double q :: st)) : xW p l e R s m args below meth c Q b nL P cells slots pc lv (.double y :: .double x :: st) := x_dsub C d hF (k _)
theorem y_fdiv (C : xC p m c s args meth G b cc nL own) {x y : UInt32} {f : UInt32 → Option β} (d : decode cc pc = .ok (.fdiv, 1)) (hF : nf (FP.fdiv x y) f = some z) (k : ∀ q, f q = some z → xW p l e R s m args below meth c Q b nL P cells slots (pc + 1) lv (.float q :: st)) : xW p l e R s m args below meth c Q b nL P cells slots pc lv (.float y :: .float x :: st) := x_fdiv C d hF (k _)
theorem y_f2d (C : xC p m c s args meth G b cc nL own) {x : UInt32} {f : UInt64 → Option β} (d : decode cc pc = .ok (.f2d, 1)) (hF : nd (FP.f2d x) f = some z) (k : ∀ q, f q = some z → xW p l e R s m args below meth c Q b nL P cells slots (pc + 1) lv (.double q :: st)) : xW p l e R s m args below meth c Q b nL P cells slots pc lv (.float x :: st) := x_f2d C d hF (k _)
end YRows
