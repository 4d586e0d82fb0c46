theorem kb_6 : (Int8.ofInt 6).toInt32 = 6 := by decide
theorem kb_7 : (Int8.ofInt 7).toInt32 = 7 := by decide
theorem kb_10 : (Int8.ofInt 10).toInt32 = 10 := by decide
theorem kb_12 : (Int8.ofInt 12).toInt32 = 12 := by decide
theorem kb_15 : (Int8.ofInt 15).toInt32 = 15 := by decide
theorem kb_20 : (Int8.ofInt 20).toInt32 = 20 := by decide
theorem kb_120 : (Int8.ofInt 120).toInt32 = 120 := by decide
theorem ki_m1 : Int32.ofInt (-1) = (-1) := by decide
theorem ki_0 : Int32.ofInt 0 = 0 := by decide
theorem ki_1 : Int32.ofInt 1 = 1 := by decide
theorem ki_2 : Int32.ofInt 2 = 2 := by decide
theorem ki_3 : Int32.ofInt 3 = 3 := by decide
theorem ki_5 : Int32.ofInt 5 = 5 := by decide
theorem pn_X0 : plainName RX0 = true := by decide +kernel
theorem pn_X1 : plainName RX1 = true := by decide +kernel
theorem pn_X2 : plainName RX2 = true := by decide +kernel
theorem pn_X3 : plainName RX3 = true := by decide +kernel
theorem pn_X4 : plainName RX4 = true := by decide +kernel
theorem pn_X5 : plainName RX5 = true := by decide +kernel
theorem pn_X6 : plainName RX6 = true := by decide +kernel
theorem pn_X7 : plainName RX7 = true := by decide +kernel
theorem pn_L : plainName RL = true := by decide +kernel
theorem vm_X0_isHere : xVm yX0_isHere cX0_isHere 2 (some .boolean) 1 := ⟨wq151, wq34, wq149, wq150, by decide +kernel, by decide +kernel, by decide +kernel⟩
theorem vm_X0_isInYard : xVm yX0_isInYard cX0_isInYard 2 (some .boolean) 1 := ⟨wq212, wq34, wq210, wq211, by decide +kernel, by decide +kernel, by decide +kernel⟩
theorem vm_X0_number : xVm yX0_number cX0_number 1 (some .int) 0 := ⟨wq159, wq34, wq157, wq158, by decide +kernel, by decide +kernel, by decide +kernel⟩
theorem vm_X0_numberInYard : xVm yX0_numberInYard cX0_numberInYard 1 (some .int) 0 := ⟨wq167, wq34, wq165, wq166, by decide +kernel, by decide +kernel, by decide +kernel⟩
theorem vm_X0_mask : xVm yX0_mask cX0_mask 3 (some .int) 0 := ⟨wq147, wq34, wq145, wq146, by decide +kernel, by decide +kernel, by decide +kernel⟩
theorem vm_X0_maskOfLate : xVm yX0_maskOfLate cX0_maskOfLate 4 (some .int) 1 := ⟨wq208, wq34, wq206, wq207, by decide +kernel, by decide +kernel, by decide +kernel⟩
theorem vm_X0_lowestFree : xVm yX0_lowestFree cX0_lowestFree 2 (some .int) 0 := ⟨wq564, wq34, wq562, wq563, by decide +kernel, by decide +kernel, by decide +kernel⟩
theorem vm_X0_lowestBesides : xVm yX0_lowestBesides cX0_lowestBesides 3 (some .int) 1 := ⟨wq603, wq34, wq601, wq602, by decide +kernel, by decide +kernel, by decide +kernel⟩
theorem vm_X0_fillPlace : xVm yX0_fillPlace cX0_fillPlace 2 none 1 := ⟨wq573, wq34, wq571, wq572, by decide +kernel, by decide +kernel, by decide +kernel⟩
theorem vm_X0_emptyPlace : xVm yX0_emptyPlace cX0_emptyPlace 2 none 1 := ⟨wq617, wq34, wq615, wq616, by decide +kernel, by decide +kernel, by decide +kernel⟩
theorem vm_X0_leafOnHeap : xVm yX0_leafOnHeap cX0_leafOnHeap 4 (some .int) 2 := ⟨wq399, wq34, wq397, wq398, by decide +kernel, by decide +kernel, by decide +kernel⟩
theorem vm_X0_putOnHeap : xVm yX0_putOnHeap cX0_putOnHeap 3 none 2 := ⟨wq607, wq34, wq605, wq606, by decide +kernel, by decide +kernel, by decide +kernel⟩
theorem vm_X0_copyFrom : xVm yX0_copyFrom cX0_copyFrom 2 none 1 := ⟨wq474, wq34, wq472, wq473, by decide +kernel, by decide +kernel, by decide +kernel⟩
theorem sm_X1_firstOf : xSm yX1_firstOf cX1_firstOf 1 (some .int) 1 := ⟨wq280, wq38, wq279, by decide +kernel, by decide +kernel, by decide +kernel⟩
theorem vm_X1_kindOf : xVm yX1_kindOf cX1_kindOf 4 (some .int) 2 := ⟨wq372, wq38, wq370, wq371, by decide +kernel, by decide +kernel, by decide +kernel⟩
theorem vm_X1_leafOf : xVm yX1_leafOf cX1_leafOf 4 (some .int) 2 := ⟨wq377, wq38, wq375, wq376, by decide +kernel, by decide +kernel, by decide +kernel⟩
theorem vm_X1_branchOf : xVm yX1_branchOf cX1_branchOf 3 (some .int) 2 := ⟨wq381, wq38, wq379, wq380, by decide +kernel, by decide +kernel, by decide +kernel⟩
theorem vm_X1_write : xVm yX1_write cX1_write 6 none 4 := ⟨wq643, wq38, wq641, wq642, by decide +kernel, by decide +kernel, by decide +kernel⟩
theorem vm_X1_fasten : xVm yX1_fasten cX1_fasten 4 none 2 := ⟨wq663, wq38, wq661, wq662, by decide +kernel, by decide +kernel, by decide +kernel⟩
theorem vm_X1_release : xVm yX1_release cX1_release 4 none 2 := ⟨wq536, wq38, wq534, wq535, by decide +kernel, by decide +kernel, by decide +kernel⟩
theorem vm_X1_releaseAll : xVm yX1_releaseAll cX1_releaseAll 3 none 1 := ⟨wq532, wq38, wq530, wq531, by decide +kernel, by decide +kernel, by decide +kernel⟩
theorem vm_X1_pins : xVm yX1_pins cX1_pins 1 (some .int) 0 := ⟨wq177, wq38, wq175, wq176, by decide +kernel, by decide +kernel, by decide +kernel⟩
theorem vm_X1_notes : xVm yX1_notes cX1_notes 1 (some .int) 0 := ⟨wq182, wq38, wq180, wq181, by decide +kernel, by decide +kernel, by decide +kernel⟩
theorem vm_X1_pinsOfChild : xVm yX1_pinsOfChild cX1_pinsOfChild 2 (some .int) 1 := ⟨wq348, wq38, wq346, wq347, by decide +kernel, by decide +kernel, by decide +kernel⟩
theorem vm_X1_notesOfChild : xVm yX1_notesOfChild cX1_notesOfChild 2 (some .int) 1 := ⟨wq352, wq38, wq350, wq351, by decide +kernel, by decide +kernel, by decide +kernel⟩
theorem vm_X1_pinsOn : xVm yX1_pinsOn cX1_pinsOn 2 (some .int) 1 := ⟨wq238, wq38, wq236, wq237, by decide +kernel, by decide +kernel, by decide +kernel⟩
theorem vm_X1_notesOn : xVm yX1_notesOn cX1_notesOn 2 (some .int) 1 := ⟨wq284, wq38, wq282, wq283, by decide +kernel, by decide +kernel, by decide +kernel⟩
theorem vm_X1_pinsOnBy : xVm yX1_pinsOnBy cX1_pinsOnBy 3 (some .int) 2 := ⟨wq277, wq38, wq275, wq276, by decide +kernel, by decide +kernel, by decide +kernel⟩
theorem vm_X1_maskOfHolders : xVm yX1_maskOfHolders cX1_maskOfHolders 4 (some .int) 1 := ⟨wq273, wq38, wq271, wq272, by decide +kernel, by decide +kernel, by decide +kernel⟩
theorem vm_X1_numberOfHook : xVm yX1_numberOfHook cX1_numberOfHook 4 (some .int) 3 := ⟨wq368, wq38, wq366, wq367, by decide +kernel, by decide +kernel, by decide +kernel⟩
theorem vm_X1_copyFrom : xVm yX1_copyFrom cX1_copyFrom 2 none 1 := ⟨wq479, wq38, wq477, wq478, by decide +kernel, by decide +kernel, by decide +kernel⟩
theorem vm_X2_sprout : xVm yX2_sprout cX2_sprout 4 (some .int) 2 := ⟨wq711, wq30, wq709, wq710, by decide +kernel, by decide +kernel, by decide +kernel⟩
theorem vm_X2_putAside : xVm yX2_putAside cX2_putAside 4 none 3 := ⟨wq737, wq30, wq735, wq736, by decide +kernel, by decide +kernel, by decide +kernel⟩
theorem vm_X2_burn : xVm yX2_burn cX2_burn 2 none 1 := ⟨wq748, wq30, wq746, wq747, by decide +kernel, by decide +kernel, by decide +kernel⟩
theorem vm_X2_numberWhere : xVm yX2_numberWhere cX2_numberWhere 2 (some .int) 1 := ⟨wq171, wq30, wq169, wq170, by decide +kernel, by decide +kernel, by decide +kernel⟩
theorem vm_X2_copyFrom : xVm yX2_copyFrom cX2_copyFrom 2 none 1 := ⟨wq458, wq30, wq456, wq457, by decide +kernel, by decide +kernel, by decide +kernel⟩
theorem vm_X4_get : xVm yX4_get cX4_get 2 (some .int) 1 := ⟨wq155, wq46, wq153, wq154, by decide +kernel, by decide +kernel, by decide +kernel⟩
theorem vm_X4_put : xVm yX4_put cX4_put 3 none 2 := ⟨wq79, wq46, wq77, wq78, by decide +kernel, by decide +kernel, by decide +kernel⟩
theorem vm_X4_add : xVm yX4_add cX4_add 3 none 2 := ⟨wq611, wq46, wq609, wq610, by decide +kernel, by decide +kernel, by decide +kernel⟩
theorem vm_X4_fill : xVm yX4_fill cX4_fill 3 none 1 := ⟨wq61, wq46, wq59, wq60, by decide +kernel, by decide +kernel, by decide +kernel⟩
theorem vm_X4_number : xVm yX4_number cX4_number 6 (some .int) 3 := ⟨wq163, wq46, wq161, wq162, by decide +kernel, by decide +kernel, by decide +kernel⟩
theorem vm_X4_copyFrom : xVm yX4_copyFrom cX4_copyFrom 2 none 1 := ⟨wq462, wq46, wq460, wq461, by decide +kernel, by decide +kernel, by decide +kernel⟩
theorem vm_X5_number : xVm yX5_number cX5_number 1 (some .int) 0 := ⟨wq131, wq17, wq129, wq130, by decide +kernel, by decide +kernel, by decide +kernel⟩
theorem vm_X5_push : xVm yX5_push cX5_push 3 none 1 := ⟨wq507, wq17, wq505, wq506, by decide +kernel, by decide +kernel, by decide +kernel⟩
theorem vm_X5_popInto : xVm yX5_popInto cX5_popInto 4 none 1 := ⟨wq445, wq17, wq443, wq444, by decide +kernel, by decide +kernel, by decide +kernel⟩
theorem vm_X5_placeAt : xVm yX5_placeAt cX5_placeAt 2 (some (.object "PinnedLeaves$Yard")) 1 := ⟨wq450, wq17, wq448, wq449, by decide +kernel, by decide +kernel, by decide +kernel⟩
theorem vm_X6_copyFrom : xVm yX6_copyFrom cX6_copyFrom 2 none 1 := ⟨wq454, wq12, wq452, wq453, by decide +kernel, by decide +kernel, by decide +kernel⟩
theorem vm_X6_addChild : xVm yX6_addChild cX6_addChild 2 (some .int) 0 := ⟨wq568, wq12, wq566, wq567, by decide +kernel, by decide +kernel, by decide +kernel⟩
theorem vm_X6_removeChild : xVm yX6_removeChild cX6_removeChild 6 (some .int) 1 := ⟨wq599, wq12, wq597, wq598, by decide +kernel, by decide +kernel, by decide +kernel⟩
theorem vm_X6_mayGoIn : xVm yX6_mayGoIn cX6_mayGoIn 2 (some .boolean) 1 := ⟨wq502, wq12, wq500, wq501, by decide +kernel, by decide +kernel, by decide +kernel⟩
theorem vm_X6_goIn : xVm yX6_goIn cX6_goIn 2 (some .int) 1 := ⟨wq512, wq12, wq510, wq511, by decide +kernel, by decide +kernel, by decide +kernel⟩
theorem vm_X6_mayLieDown : xVm yX6_mayLieDown cX6_mayLieDown 2 (some .boolean) 1 := ⟨wq524, wq12, wq522, wq523, by decide +kernel, by decide +kernel, by decide +kernel⟩
theorem vm_X6_lieDown : xVm yX6_lieDown cX6_lieDown 3 (some .int) 1 := ⟨wq528, wq12, wq526, wq527, by decide +kernel, by decide +kernel, by decide +kernel⟩
theorem vm_X6_mayStrike : xVm yX6_mayStrike cX6_mayStrike 1 (some .boolean) 0 := ⟨wq548, wq12, wq546, wq547, by decide +kernel, by decide +kernel, by decide +kernel⟩
theorem vm_X6_strike : xVm yX6_strike cX6_strike 1 (some .int) 0 := ⟨wq553, wq12, wq551, wq552, by decide +kernel, by decide +kernel, by decide +kernel⟩
theorem vm_X6_maySprout : xVm yX6_maySprout cX6_maySprout 2 (some .boolean) 1 := ⟨wq707, wq12, wq705, wq706, by decide +kernel, by decide +kernel, by decide +kernel⟩
theorem vm_X6_mayWrite : xVm yX6_mayWrite cX6_mayWrite 4 (some .boolean) 3 := ⟨wq634, wq12, wq632, wq633, by decide +kernel, by decide +kernel, by decide +kernel⟩
theorem vm_X6_write : xVm yX6_write cX6_write 5 (some .int) 3 := ⟨wq639, wq12, wq637, wq638, by decide +kernel, by decide +kernel, by decide +kernel⟩
theorem vm_X6_mayFasten : xVm yX6_mayFasten cX6_mayFasten 3 (some .boolean) 2 := ⟨wq654, wq12, wq652, wq653, by decide +kernel, by decide +kernel, by decide +kernel⟩
theorem vm_X6_fasten : xVm yX6_fasten cX6_fasten 4 (some .int) 2 := ⟨wq658, wq12, wq656, wq657, by decide +kernel, by decide +kernel, by decide +kernel⟩
theorem vm_X6_mayRelease : xVm yX6_mayRelease cX6_mayRelease 3 (some .boolean) 2 := ⟨wq675, wq12, wq673, wq674, by decide +kernel, by decide +kernel, by decide +kernel⟩
theorem vm_X6_release : xVm yX6_release cX6_release 4 (some .int) 2 := ⟨wq679, wq12, wq677, wq678, by decide +kernel, by decide +kernel, by decide +kernel⟩
theorem vm_X6_lookThrough : xVm yX6_lookThrough cX6_lookThrough 4 (some .int) 2 := ⟨wq690, wq12, wq688, wq689, by decide +kernel, by decide +kernel, by decide +kernel⟩
theorem vm_X6_mayTakeOff : xVm yX6_mayTakeOff cX6_mayTakeOff 3 (some .boolean) 2 := ⟨wq726, wq12, wq724, wq725, by decide +kernel, by decide +kernel, by decide +kernel⟩
theorem vm_X6_takeOff : xVm yX6_takeOff cX6_takeOff 5 (some .int) 2 := ⟨wq730, wq12, wq728, wq729, by decide +kernel, by decide +kernel, by decide +kernel⟩
theorem vm_X6_mayExchange : xVm yX6_mayExchange cX6_mayExchange 3 (some .boolean) 2 := ⟨wq765, wq12, wq763, wq764, by decide +kernel, by decide +kernel, by decide +kernel⟩
theorem vm_X6_exchange : xVm yX6_exchange cX6_exchange 4 (some .int) 3 := ⟨wq770, wq12, wq768, wq769, by decide +kernel, by decide +kernel, by decide +kernel⟩
theorem vm_X6_mayClear : xVm yX6_mayClear cX6_mayClear 2 (some .boolean) 1 := ⟨wq783, wq12, wq781, wq782, by decide +kernel, by decide +kernel, by decide +kernel⟩
theorem vm_X6_clear : xVm yX6_clear cX6_clear 7 (some .int) 1 := ⟨wq743, wq12, wq741, wq742, by decide +kernel, by decide +kernel, by decide +kernel⟩
theorem vm_X6_valueOf : xVm yX6_valueOf cX6_valueOf 2 (some .int) 1 := ⟨wq198, wq12, wq196, wq197, by decide +kernel, by decide +kernel, by decide +kernel⟩
theorem vm_X6_change : xVm yX6_change cX6_change 4 (some .int) 2 := ⟨wq587, wq12, wq585, wq586, by decide +kernel, by decide +kernel, by decide +kernel⟩
theorem vm_X6_mayBurn : xVm yX6_mayBurn cX6_mayBurn 6 (some .boolean) 3 := ⟨wq302, wq12, wq300, wq301, by decide +kernel, by decide +kernel, by decide +kernel⟩
theorem vm_X6_burnable : xVm yX6_burnable cX6_burnable 7 (some .int) 3 := ⟨wq411, wq12, wq409, wq410, by decide +kernel, by decide +kernel, by decide +kernel⟩
theorem vm_X6_burnableIfRested : xVm yX6_burnableIfRested cX6_burnableIfRested 4 (some .int) 1 := ⟨wq407, wq12, wq405, wq406, by decide +kernel, by decide +kernel, by decide +kernel⟩
theorem vm_X6_burnableIfAllRested : xVm yX6_burnableIfAllRested cX6_burnableIfAllRested 4 (some .int) 0 := ⟨wq223, wq12, wq221, wq222, by decide +kernel, by decide +kernel, by decide +kernel⟩
theorem vm_X6_bestHeap : xVm yX6_bestHeap cX6_bestHeap 6 (some .int) 0 := ⟨wq431, wq12, wq429, wq430, by decide +kernel, by decide +kernel, by decide +kernel⟩
theorem vm_X6_freedBy : xVm yX6_freedBy cX6_freedBy 5 (some .int) 2 := ⟨wq389, wq12, wq387, wq388, by decide +kernel, by decide +kernel, by decide +kernel⟩
theorem vm_X6_mostPinned : xVm yX6_mostPinned cX6_mostPinned 5 (some .int) 0 := ⟨wq234, wq12, wq232, wq233, by decide +kernel, by decide +kernel, by decide +kernel⟩
theorem vm_X6_whyNotBurnt : xVm yX6_whyNotBurnt cX6_whyNotBurnt 3 (some .int) 1 := ⟨wq298, wq12, wq296, wq297, by decide +kernel, by decide +kernel, by decide +kernel⟩
theorem vm_X6_numberOfLeaf : xVm yX6_numberOfLeaf cX6_numberOfLeaf 3 (some .int) 2 := ⟨wq266, wq12, wq264, wq265, by decide +kernel, by decide +kernel, by decide +kernel⟩
theorem vm_X6_numberOfChild : xVm yX6_numberOfChild cX6_numberOfChild 3 (some .int) 2 := ⟨wq338, wq12, wq336, wq337, by decide +kernel, by decide +kernel, by decide +kernel⟩
theorem vm_X6_numberOfAll : xVm yX6_numberOfAll cX6_numberOfAll 2 (some .int) 1 := ⟨wq136, wq12, wq134, wq135, by decide +kernel, by decide +kernel, by decide +kernel⟩
theorem vm_X7_come : xVm yX7_come cX7_come 1 (some .int) 0 := ⟨wq560, wq2, wq558, wq559, by decide +kernel, by decide +kernel, by decide +kernel⟩
theorem vm_X7_leave : xVm yX7_leave cX7_leave 2 (some .int) 1 := ⟨wq595, wq2, wq593, wq594, by decide +kernel, by decide +kernel, by decide +kernel⟩
theorem vm_X7_enter : xVm yX7_enter cX7_enter 2 (some .int) 1 := ⟨wq498, wq2, wq496, wq497, by decide +kernel, by decide +kernel, by decide +kernel⟩
theorem vm_X7_rest : xVm yX7_rest cX7_rest 2 (some .int) 1 := ⟨wq520, wq2, wq518, wq519, by decide +kernel, by decide +kernel, by decide +kernel⟩
theorem vm_X7_ring : xVm yX7_ring cX7_ring 1 (some .int) 0 := ⟨wq544, wq2, wq542, wq543, by decide +kernel, by decide +kernel, by decide +kernel⟩
theorem vm_X7_grow : xVm yX7_grow cX7_grow 3 (some .int) 2 := ⟨wq700, wq2, wq698, wq699, by decide +kernel, by decide +kernel, by decide +kernel⟩
theorem vm_X7_note : xVm yX7_note cX7_note 4 (some .int) 3 := ⟨wq630, wq2, wq628, wq629, by decide +kernel, by decide +kernel, by decide +kernel⟩
theorem vm_X7_pin : xVm yX7_pin cX7_pin 3 (some .int) 2 := ⟨wq650, wq2, wq648, wq649, by decide +kernel, by decide +kernel, by decide +kernel⟩
theorem vm_X7_loosen : xVm yX7_loosen cX7_loosen 3 (some .int) 2 := ⟨wq671, wq2, wq669, wq670, by decide +kernel, by decide +kernel, by decide +kernel⟩
theorem vm_X7_look : xVm yX7_look cX7_look 3 (some .int) 2 := ⟨wq686, wq2, wq684, wq685, by decide +kernel, by decide +kernel, by decide +kernel⟩
theorem vm_X7_take : xVm yX7_take cX7_take 3 (some .int) 2 := ⟨wq722, wq2, wq720, wq721, by decide +kernel, by decide +kernel, by decide +kernel⟩
theorem vm_X7_swap : xVm yX7_swap cX7_swap 4 (some .int) 3 := ⟨wq761, wq2, wq759, wq760, by decide +kernel, by decide +kernel, by decide +kernel⟩
theorem vm_X7_rake : xVm yX7_rake cX7_rake 2 (some .int) 1 := ⟨wq779, wq2, wq777, wq778, by decide +kernel, by decide +kernel, by decide +kernel⟩
theorem vm_X7_set : xVm yX7_set cX7_set 3 (some .int) 2 := ⟨wq580, wq2, wq578, wq579, by decide +kernel, by decide +kernel, by decide +kernel⟩
theorem vm_X7_undo : xVm yX7_undo cX7_undo 1 (some .int) 0 := ⟨wq439, wq2, wq437, wq438, by decide +kernel, by decide +kernel, by decide +kernel⟩
theorem vm_X7_branch : xVm yX7_branch cX7_branch 2 (some .int) 1 := ⟨wq312, wq2, wq310, wq311, by decide +kernel, by decide +kernel, by decide +kernel⟩
theorem vm_X7_leaf : xVm yX7_leaf cX7_leaf 3 (some .int) 2 := ⟨wq257, wq2, wq255, wq256, by decide +kernel, by decide +kernel, by decide +kernel⟩
theorem vm_X7_child : xVm yX7_child cX7_child 3 (some .int) 2 := ⟨wq329, wq2, wq327, wq328, by decide +kernel, by decide +kernel, by decide +kernel⟩
theorem vm_X7_hook : xVm yX7_hook cX7_hook 4 (some .int) 3 := ⟨wq359, wq2, wq357, wq358, by decide +kernel, by decide +kernel, by decide +kernel⟩
theorem vm_X7_heap : xVm yX7_heap cX7_heap 3 (some .int) 2 := ⟨wq395, wq2, wq393, wq394, by decide +kernel, by decide +kernel, by decide +kernel⟩
theorem vm_X7_count : xVm yX7_count cX7_count 2 (some .int) 1 := ⟨wq118, wq2, wq116, wq117, by decide +kernel, by decide +kernel, by decide +kernel⟩
theorem vm_X7_setting : xVm yX7_setting cX7_setting 2 (some .int) 1 := ⟨wq189, wq2, wq187, wq188, by decide +kernel, by decide +kernel, by decide +kernel⟩
theorem vm_X7_why : xVm yX7_why cX7_why 2 (some .int) 1 := ⟨wq294, wq2, wq292, wq293, by decide +kernel, by decide +kernel, by decide +kernel⟩
theorem vm_X7_ifRaked : xVm yX7_ifRaked cX7_ifRaked 3 (some .int) 2 := ⟨wq416, wq2, wq414, wq415, by decide +kernel, by decide +kernel, by decide +kernel⟩
theorem vm_X7_bestRake : xVm yX7_bestRake cX7_bestRake 1 (some .int) 0 := ⟨wq427, wq2, wq425, wq426, by decide +kernel, by decide +kernel, by decide +kernel⟩
theorem vm_X7_ifLoosened : xVm yX7_ifLoosened cX7_ifLoosened 3 (some .int) 2 := ⟨wq385, wq2, wq383, wq384, by decide +kernel, by decide +kernel, by decide +kernel⟩
theorem vm_X7_late : xVm yX7_late cX7_late 1 (some .int) 0 := ⟨wq202, wq2, wq200, wq201, by decide +kernel, by decide +kernel, by decide +kernel⟩
theorem vm_X7_ifRested : xVm yX7_ifRested cX7_ifRested 2 (some .int) 1 := ⟨wq403, wq2, wq401, wq402, by decide +kernel, by decide +kernel, by decide +kernel⟩
theorem vm_X7_ifAllRested : xVm yX7_ifAllRested cX7_ifAllRested 1 (some .int) 0 := ⟨wq219, wq2, wq217, wq218, by decide +kernel, by decide +kernel, by decide +kernel⟩
theorem vm_X7_mostHeld : xVm yX7_mostHeld cX7_mostHeld 1 (some .int) 0 := ⟨wq230, wq2, wq228, wq229, by decide +kernel, by decide +kernel, by decide +kernel⟩
theorem vm_X7_burntShare : xVm yX7_burntShare cX7_burntShare 3 (some .double) 0 := ⟨wq242, wq2, wq240, wq241, by decide +kernel, by decide +kernel, by decide +kernel⟩
theorem vm_X7_fullness : xVm yX7_fullness cX7_fullness 2 (some .float) 0 := ⟨wq248, wq2, wq246, wq247, by decide +kernel, by decide +kernel, by decide +kernel⟩
theorem vm_X7_needChild : xVm yX7_needChild cX7_needChild 2 none 1 := ⟨wq333, wq2, wq331, wq332, by decide +kernel, by decide +kernel, by decide +kernel⟩
theorem vm_X7_needHook : xVm yX7_needHook cX7_needHook 3 none 2 := ⟨wq364, wq2, wq362, wq363, by decide +kernel, by decide +kernel, by decide +kernel⟩
theorem vm_X7_needLeaf : xVm yX7_needLeaf cX7_needLeaf 2 none 1 := ⟨wq261, wq2, wq259, wq260, by decide +kernel, by decide +kernel, by decide +kernel⟩
theorem sm_X7_needBranch : xSm yX7_needBranch cX7_needBranch 1 none 1 := ⟨wq316, wq2, wq315, by decide +kernel, by decide +kernel, by decide +kernel⟩
theorem sm_X7_needSetting : xSm yX7_needSetting cX7_needSetting 1 none 1 := ⟨wq192, wq2, wq191, by decide +kernel, by decide +kernel, by decide +kernel⟩
theorem sm_X7_needColour : xSm yX7_needColour cX7_needColour 1 none 1 := ⟨wq703, wq2, wq702, by decide +kernel, by decide +kernel, by decide +kernel⟩
theorem sm_X7_needWhat : xSm yX7_needWhat cX7_needWhat 2 none 2 := ⟨wq121, wq2, wq120, by decide +kernel, by decide +kernel, by decide +kernel⟩
theorem sm_X7_isValueOf : xSm yX7_isValueOf cX7_isValueOf 2 (some .boolean) 2 := ⟨wq583, wq2, wq582, by decide +kernel, by decide +kernel, by decide +kernel⟩
theorem vm_X7_counted : xVm yX7_counted cX7_counted 2 (some .int) 1 := ⟨wq127, wq2, wq125, wq126, by decide +kernel, by decide +kernel, by decide +kernel⟩
theorem sm_L_cell : xSm yL_cell cL_cell 2 (some .int) 2 := ⟨wq483, wq104, wq482, by decide +kernel, by decide +kernel, by decide +kernel⟩
theorem sm_L_low : xSm yL_low cL_low 2 (some .int) 2 := ⟨wq487, wq104, wq486, by decide +kernel, by decide +kernel, by decide +kernel⟩
theorem sm_L_where : xSm yL_where cL_where 2 (some .int) 2 := ⟨wq114, wq104, wq113, by decide +kernel, by decide +kernel, by decide +kernel⟩
theorem sm_L_put : xSm yL_put cL_put 3 none 3 := ⟨wq620, wq104, wq619, by decide +kernel, by decide +kernel, by decide +kernel⟩
theorem sm_L_branch : xSm yL_branch cL_branch 2 (some .int) 2 := ⟨wq287, wq104, wq286, by decide +kernel, by decide +kernel, by decide +kernel⟩
theorem sm_L_noted : xSm yL_noted cL_noted 2 (some .int) 2 := ⟨wq290, wq104, wq289, by decide +kernel, by decide +kernel, by decide +kernel⟩
theorem sm_L_pins : xSm yL_pins cL_pins 6 (some .int) 4 := ⟨wq111, wq104, wq110, by decide +kernel, by decide +kernel, by decide +kernel⟩
theorem sm_L_may : xSm yL_may cL_may 6 (some .boolean) 6 := ⟨wq308, wq104, wq307, by decide +kernel, by decide +kernel, by decide +kernel⟩
theorem sm_L_heap : xSm yL_heap cL_heap 6 (some .int) 4 := ⟨wq423, wq104, wq422, by decide +kernel, by decide +kernel, by decide +kernel⟩
theorem sm_L_children : xSm yL_children cL_children 3 (some .int) 1 := ⟨wq185, wq104, wq184, by decide +kernel, by decide +kernel, by decide +kernel⟩
theorem sm_L_raked : xSm yL_raked cL_raked 10 (some .int) 6 := ⟨wq754, wq104, wq753, by decide +kernel, by decide +kernel, by decide +kernel⟩
theorem sm_L_taken : xSm yL_taken cL_taken 10 (some .int) 8 := ⟨wq751, wq104, wq750, by decide +kernel, by decide +kernel, by decide +kernel⟩
theorem sm_L_grown : xSm yL_grown cL_grown 6 (some .int) 5 := ⟨wq715, wq104, wq714, by decide +kernel, by decide +kernel, by decide +kernel⟩
theorem sm_L_late : xSm yL_late cL_late 4 (some .int) 2 := ⟨wq215, wq104, wq214, by decide +kernel, by decide +kernel, by decide +kernel⟩
theorem sm_L_without : xSm yL_without cL_without 4 none 3 := ⟨wq105, wq104, wq103, by decide +kernel, by decide +kernel, by decide +kernel⟩
theorem sm_L_goes : xSm yL_goes cL_goes 17 (some .boolean) 8 := ⟨wq491, wq104, wq490, by decide +kernel, by decide +kernel, by decide +kernel⟩
theorem sm_L_hooks : xSm yL_hooks cL_hooks 17 (some .boolean) 8 := ⟨wq623, wq104, wq622, by decide +kernel, by decide +kernel, by decide +kernel⟩
theorem sm_L_leaves : xSm yL_leaves cL_leaves 17 (some .boolean) 9 := ⟨wq693, wq104, wq692, by decide +kernel, by decide +kernel, by decide +kernel⟩
theorem sm_L_areLeaves : xSm yL_areLeaves cL_areLeaves 9 (some .boolean) 5 := ⟨wq253, wq104, wq252, by decide +kernel, by decide +kernel, by decide +kernel⟩
theorem sm_L_isChild : xSm yL_isChild cL_isChild 13 (some .boolean) 7 := ⟨wq355, wq104, wq354, by decide +kernel, by decide +kernel, by decide +kernel⟩
theorem sm_L_burns : xSm yL_burns cL_burns 8 (some .int) 6 := ⟨wq420, wq104, wq419, by decide +kernel, by decide +kernel, by decide +kernel⟩
theorem sm_L_areChildren : xSm yL_areChildren cL_areChildren 10 (some .boolean) 6 := ⟨wq320, wq104, wq319, by decide +kernel, by decide +kernel, by decide +kernel⟩
theorem sm_L_isSo : xSm yL_isSo cL_isSo 17 (some .boolean) 7 := ⟨wq108, wq104, wq107, by decide +kernel, by decide +kernel, by decide +kernel⟩
theorem none_ne {α : Type} {P : Prop} {x : α} (h : none = some x) : P := nomatch h
theorem sm_inl {α β γ : Type} {a : α} {f : α → Option γ} {g : β → Option γ} {r : Option γ} (h : sm (.inl a) f g = r) : f a = r := h
theorem cst_t {β : Type} {c9 : Prop} [Decidable c9] {A : Option β} {r : β} (h : c9) (hF : A = some r) : (if c9 then A else none) = some r := by rw [if_pos h]; exact hF
theorem cst_f {β : Type} {c9 : Prop} [Decidable c9] {A : Option β} {r : β} (h : ¬ c9) (hF : A = some r) : (if c9 then none else A) = some r := by rw [if_neg h]; exact hF
section YRows
variable {p : Program} {l : Launch} {e : Env} {R : Room} {s : State} {m : MethodId} {args : Array Value} {below : List Frame} {meth : Method} {c : Code} {Q : State → Prop} {b nL : Nat} {P : Heap → Prop} {cells slots pc : Nat} {lv : List (Nat × Value)} {st : List Value} {G : xG} {cc : ByteArray} {own : String} {β : Type} {z : β}
theorem y_idiv (C : xC p m c s args meth G b cc nL own) {x y : Int32} {f : Int32 → Option β} (d : decode cc pc = .ok (.idiv, 1)) (hF : dv x y f = some z) (k : ∀ q, f q = some z → xW p l e R s m args below meth c Q b nL P cells slots (pc + 1) lv (.int q :: st)) : xW p l e R s m args below meth c Q b nL P cells slots pc lv (.int y :: .int x :: st) := x_idiv C d hF (k _)
theorem y_irem (C : xC p m c s args meth G b cc nL own) {x y : Int32} {f : Int32 → Option β} (d : decode cc pc = .ok (.irem, 1)) (hF : rm x y f = some z) (k : ∀ q, f q = some z → xW p l e R s m args below meth c Q b nL P cells slots (pc + 1) lv (.int q :: st)) : xW p l e R s m args below meth c Q b nL P cells slots pc lv (.int y :: .int x :: st) := x_irem C d hF (k _)
theorem y_ddiv (C : xC p m c s args meth G b cc nL own) {x y : UInt64} {f : UInt64 → Option β} (d : decode cc pc = .ok (.ddiv, 1)) (hF : nd (FP.ddiv x y) f = some z) (k : ∀ q, f q = some z → xW p l e R s m args below meth c Q b nL P cells slots (pc + 1) lv (.double q :: st)) : xW p l e R s m args below meth c Q b nL P cells slots pc lv (.double y :: .double x :: st) := x_ddiv C d hF (k _)
theorem y_dmul (C : xC p m c s args meth G b cc nL own) {x y : UInt64} {f : UInt64 → Option β} (d : decode cc pc = .ok (.dmul, 1)) (hF : nd (FP.dmul x y) f = some z) (k : ∀ q, f q = some z → xW p l e R s m args below meth c Q b nL P cells slots (pc + 1) lv (.double q :: st)) : xW p l e R s m args below meth c Q b nL P cells slots pc lv (.double y :: .double x :: st) := x_dmul C d hF (k _)
theorem y_dsub (C : xC p m c s args meth G b cc nL own) {x y : UInt64} {f : UInt64 → Option β} (d : decode cc pc = .ok (.dsub, 1)) (hF : nd (FP.dsub x y) f = some z) (k : ∀ q, f q = some z → xW p l e R s m args below meth c Q b nL P cells slots (pc + 1) lv (.double q :: st)) : xW p l e R s m args below meth c Q b nL P cells slots pc lv (.double y :: .double x :: st) := x_dsub C d hF (k _)
theorem y_fdiv (C : xC p m c s args meth G b cc nL own) {x y : UInt32} {f : UInt32 → Option β} (d : decode cc pc = .ok (.fdiv, 1)) (hF : nf (FP.fdiv x y) f = some z) (k : ∀ q, f q = some z → xW p l e R s m args below meth c Q b nL P cells slots (pc + 1) lv (.float q :: st)) : xW p l e R s m args below meth c Q b nL P cells slots pc lv (.float y :: .float x :: st) := x_fdiv C d hF (k _)
theorem y_f2d (C : xC p m c s args meth G b cc nL own) {x : UInt32} {f : UInt64 → Option β} (d : decode cc pc = .ok (.f2d, 1)) (hF : nd (FP.f2d x) f = some z) (k : ∀ q, f q = some z → xW p l e R s m args below meth c Q b nL P cells slots (pc + 1) lv (.double q :: st)) : xW p l e R s m args below meth c Q b nL P cells slots pc lv (.float x :: st) := x_f2d C d hF (k _)
end YRows
