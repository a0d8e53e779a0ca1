def wsX6_begin_r2 : List Cond := [Cond.static yX6_has, Cond.code yX6_has cX6_has 2 (some .boolean), Cond.methodLink RX6 123 yX6_debt, Cond.instanceMethod yX6_debt, Cond.selects RX6 yX6_debt yX6_debt, Cond.code yX6_debt cX6_debt 4 (some .int), Cond.methodLink RX6 145 yX6_canBow, Cond.instanceMethod yX6_canBow, Cond.selects RX6 yX6_canBow yX6_canBow, Cond.code yX6_canBow cX6_canBow 4 (some .boolean), Cond.methodLink RX6 138 yX6_takes, Cond.instanceMethod yX6_takes, Cond.selects RX6 yX6_takes yX6_takes, Cond.code yX6_takes cX6_takes 3 (some .boolean), Cond.fieldLink RX6 16 "LadderOfBowsModel" "kinds" "[I", Cond.methodLink RX6 127 yX6_debtsOf, Cond.instanceMethod yX6_debtsOf, Cond.selects RX6 yX6_debtsOf yX6_debtsOf, Cond.code yX6_debtsOf cX6_debtsOf 5 (some .int), Cond.methodLink RX6 149 yX6_canAtOnce, Cond.instanceMethod yX6_canAtOnce, Cond.selects RX6 yX6_canAtOnce yX6_canAtOnce, Cond.code yX6_canAtOnce cX6_canAtOnce 4 (some .boolean), Cond.methodLink RX6 169 yX6_doAct]
def wsX6_begin_r3 : List Cond := [Cond.instanceMethod yX6_doAct, Cond.selects RX6 yX6_doAct yX6_doAct, Cond.code yX6_doAct cX6_doAct 6 none, Cond.methodLink RX6 141 yX6_setDebt, Cond.instanceMethod yX6_setDebt, Cond.selects RX6 yX6_setDebt yX6_setDebt, Cond.code yX6_setDebt cX6_setDebt 5 none, Cond.methodLink RX6 152 yX6_pays, Cond.instanceMethod yX6_pays, Cond.selects RX6 yX6_pays yX6_pays, Cond.code yX6_pays cX6_pays 4 (some .int), Cond.methodLink RX6 155 yX6_bothBow, Cond.instanceMethod yX6_bothBow, Cond.selects RX6 yX6_bothBow yX6_bothBow, Cond.code yX6_bothBow cX6_bothBow 6 none, Cond.methodLink RX6 158 yX6_dies, Cond.instanceMethod yX6_dies, Cond.selects RX6 yX6_dies yX6_dies, Cond.code yX6_dies cX6_dies 4 none, Cond.methodLink RX6 162 yX6_goDay, Cond.instanceMethod yX6_goDay, Cond.selects RX6 yX6_goDay yX6_goDay, Cond.code yX6_goDay cX6_goDay 4 none]
def wsX6_begin : List Cond := .code yX6_begin cX6_begin 1 none :: ((wsX6_begin_r1 ++ (wsX6_begin_r2 ++ wsX6_begin_r3)) ++ wsX60)
def wsX6_init_r1 : List Cond := [Cond.methodLink RX6 1 objectInit, Cond.instanceMethod objectInit, Cond.code objectInit ⟨#[0xb1]⟩ 1 none, Cond.arrayClass .int, Cond.fieldLink RX6 7 "LadderOfBowsModel" "text" "[I", Cond.fieldLink RX6 13 "LadderOfBowsModel" "persons" "[I", Cond.fieldLink RX6 16 "LadderOfBowsModel" "kinds" "[I", Cond.fieldLink RX6 19 "LadderOfBowsModel" "streets" "[I", Cond.fieldLink RX6 22 "LadderOfBowsModel" "firsts" "[I", Cond.fieldLink RX6 25 "LadderOfBowsModel" "easters" "[I", Cond.fieldLink RX6 28 "LadderOfBowsModel" "acts" "[I", Cond.fieldLink RX6 31 "LadderOfBowsModel" "actKind" "[I", Cond.fieldLink RX6 34 "LadderOfBowsModel" "actOne" "[I", Cond.fieldLink RX6 37 "LadderOfBowsModel" "actTwo" "[I", Cond.fieldLink RX6 40 "LadderOfBowsModel" "silentIn" "[I", Cond.fieldLink RX6 43 "LadderOfBowsModel" "told" "[I", Cond.fieldLink RX6 46 "LadderOfBowsModel" "debts" "[I", Cond.fieldLink RX6 49 "LadderOfBowsModel" "alive" "[I", Cond.fieldLink RX6 52 "LadderOfBowsModel" "day" "[I", Cond.fieldLink RX6 55 "LadderOfBowsModel" "many" "[I", Cond.fieldLink RX6 58 "LadderOfBowsModel" "far" "[I", Cond.fieldLink RX6 61 "LadderOfBowsModel" "most" "[I", Cond.methodLink RX6 64 yX6_noTown, Cond.instanceMethod yX6_noTown]
def wsX6_init_r2 : List Cond := [Cond.selects RX6 yX6_noTown yX6_noTown, Cond.initialized RX6, Cond.code yX6_noTown cX6_noTown 3 none, Cond.methodLink RX6 68 yX6_addPerson, Cond.instanceMethod yX6_addPerson, Cond.selects RX6 yX6_addPerson yX6_addPerson, Cond.code yX6_addPerson cX6_addPerson 4 none, Cond.methodLink RX6 72 yX6_begin, Cond.instanceMethod yX6_begin, Cond.selects RX6 yX6_begin yX6_begin, Cond.code yX6_begin cX6_begin 1 none, Cond.methodLink RX6 172 yX6_beginBut, Cond.instanceMethod yX6_beginBut, Cond.selects RX6 yX6_beginBut yX6_beginBut, Cond.code yX6_beginBut cX6_beginBut 4 none, Cond.methodLink RX6 165 yX6_canDo, Cond.instanceMethod yX6_canDo, Cond.selects RX6 yX6_canDo yX6_canDo, Cond.code yX6_canDo cX6_canDo 5 (some .boolean), Cond.methodLink RX6 135 yX6_isAlive, Cond.instanceMethod yX6_isAlive, Cond.selects RX6 yX6_isAlive yX6_isAlive, Cond.code yX6_isAlive cX6_isAlive 3 (some .boolean), Cond.methodLink RX6 131 yX6_has]
def wsX6_init_r3 : List Cond := [Cond.static yX6_has, Cond.code yX6_has cX6_has 2 (some .boolean), Cond.methodLink RX6 123 yX6_debt, Cond.instanceMethod yX6_debt, Cond.selects RX6 yX6_debt yX6_debt, Cond.code yX6_debt cX6_debt 4 (some .int), Cond.methodLink RX6 145 yX6_canBow, Cond.instanceMethod yX6_canBow, Cond.selects RX6 yX6_canBow yX6_canBow, Cond.code yX6_canBow cX6_canBow 4 (some .boolean), Cond.methodLink RX6 138 yX6_takes, Cond.instanceMethod yX6_takes, Cond.selects RX6 yX6_takes yX6_takes, Cond.code yX6_takes cX6_takes 3 (some .boolean), Cond.methodLink RX6 127 yX6_debtsOf, Cond.instanceMethod yX6_debtsOf, Cond.selects RX6 yX6_debtsOf yX6_debtsOf, Cond.code yX6_debtsOf cX6_debtsOf 5 (some .int), Cond.methodLink RX6 149 yX6_canAtOnce, Cond.instanceMethod yX6_canAtOnce, Cond.selects RX6 yX6_canAtOnce yX6_canAtOnce, Cond.code yX6_canAtOnce cX6_canAtOnce 4 (some .boolean), Cond.methodLink RX6 169 yX6_doAct, Cond.instanceMethod yX6_doAct]
def wsX6_init_r4 : List Cond := [Cond.selects RX6 yX6_doAct yX6_doAct, Cond.code yX6_doAct cX6_doAct 6 none, Cond.methodLink RX6 141 yX6_setDebt, Cond.instanceMethod yX6_setDebt, Cond.selects RX6 yX6_setDebt yX6_setDebt, Cond.code yX6_setDebt cX6_setDebt 5 none, Cond.methodLink RX6 152 yX6_pays, Cond.instanceMethod yX6_pays, Cond.selects RX6 yX6_pays yX6_pays, Cond.code yX6_pays cX6_pays 4 (some .int), Cond.methodLink RX6 155 yX6_bothBow, Cond.instanceMethod yX6_bothBow, Cond.selects RX6 yX6_bothBow yX6_bothBow, Cond.code yX6_bothBow cX6_bothBow 6 none, Cond.methodLink RX6 158 yX6_dies, Cond.instanceMethod yX6_dies, Cond.selects RX6 yX6_dies yX6_dies, Cond.code yX6_dies cX6_dies 4 none, Cond.methodLink RX6 162 yX6_goDay, Cond.instanceMethod yX6_goDay, Cond.selects RX6 yX6_goDay yX6_goDay, Cond.code yX6_goDay cX6_goDay 4 none]
def wsX6_init : List Cond := .code yX6_init cX6_init 1 none :: ((wsX6_init_r1 ++ (wsX6_init_r2 ++ (wsX6_init_r3 ++ wsX6_init_r4))) ++ wsX60)
def wsX6_in : List Cond := .code yX6_in cX6_in 6 (some .boolean) :: ([])
def wsX6_write : List Cond := .code yX6_write cX6_write 2 (some .int) :: ([.constantLong RX6 75 (32), .constantLong RX6 77 (126), .fieldLink RX6 83 "LadderOfBowsModel" "length" "I", .fieldLink RX6 7 "LadderOfBowsModel" "text" "[I", .methodLink RX6 79 yX6_in, .static yX6_in, .initialized RX6, .code yX6_in cX6_in 6 (some .boolean)] ++ wsX60)
def wsX6_wipe : List Cond := .code yX6_wipe cX6_wipe 2 (some .int) :: ([.fieldLink RX6 83 "LadderOfBowsModel" "length" "I"] ++ wsX60)
def wsX6_letterAt : List Cond := .code yX6_letterAt cX6_letterAt 2 (some .int) :: ([.fieldLink RX6 83 "LadderOfBowsModel" "length" "I", .fieldLink RX6 7 "LadderOfBowsModel" "text" "[I"] ++ wsX60)
def wsX6_figures : List Cond := .code yX6_figures cX6_figures 5 (some .boolean) :: ([.fieldLink RX6 87 "LadderOfBowsModel" "spot" "I", .constantLong RX6 94 (48), .constantLong RX6 96 (57), .constantLong RX6 98 (2), .fieldLink RX6 43 "LadderOfBowsModel" "told" "[I", .methodLink RX6 90 yX6_letterAt, .instanceMethod yX6_letterAt, .selects RX6 yX6_letterAt yX6_letterAt, .initialized RX6, .code yX6_letterAt cX6_letterAt 2 (some .int), .fieldLink RX6 83 "LadderOfBowsModel" "length" "I", .fieldLink RX6 7 "LadderOfBowsModel" "text" "[I", .methodLink RX6 79 yX6_in, .static yX6_in, .code yX6_in cX6_in 6 (some .boolean)] ++ wsX60)
def wsX6_item_r1 : List Cond := [Cond.fieldLink RX6 87 "LadderOfBowsModel" "spot" "I", Cond.fieldLink RX6 13 "LadderOfBowsModel" "persons" "[I", Cond.fieldLink RX6 43 "LadderOfBowsModel" "told" "[I", Cond.fieldLink RX6 22 "LadderOfBowsModel" "firsts" "[I", Cond.constantLong RX6 104 (60), Cond.fieldLink RX6 25 "LadderOfBowsModel" "easters" "[I", Cond.methodLink RX6 90 yX6_letterAt, Cond.instanceMethod yX6_letterAt, Cond.selects RX6 yX6_letterAt yX6_letterAt, Cond.initialized RX6, Cond.code yX6_letterAt cX6_letterAt 2 (some .int), Cond.fieldLink RX6 83 "LadderOfBowsModel" "length" "I", Cond.fieldLink RX6 7 "LadderOfBowsModel" "text" "[I", Cond.methodLink RX6 100 yX6_figures, Cond.instanceMethod yX6_figures, Cond.selects RX6 yX6_figures yX6_figures, Cond.code yX6_figures cX6_figures 5 (some .boolean), Cond.constantLong RX6 94 (48), Cond.constantLong RX6 96 (57), Cond.constantLong RX6 98 (2), Cond.methodLink RX6 79 yX6_in, Cond.static yX6_in, Cond.code yX6_in cX6_in 6 (some .boolean), Cond.methodLink RX6 68 yX6_addPerson]
def wsX6_item_r2 : List Cond := [Cond.instanceMethod yX6_addPerson, Cond.selects RX6 yX6_addPerson yX6_addPerson, Cond.code yX6_addPerson cX6_addPerson 4 none, Cond.fieldLink RX6 16 "LadderOfBowsModel" "kinds" "[I", Cond.fieldLink RX6 19 "LadderOfBowsModel" "streets" "[I"]
def wsX6_item : List Cond := .code yX6_item cX6_item 2 (some .boolean) :: ((wsX6_item_r1 ++ wsX6_item_r2) ++ wsX60)
def wsX6_readAll_r1 : List Cond := [Cond.fieldLink RX6 87 "LadderOfBowsModel" "spot" "I", Cond.fieldLink RX6 83 "LadderOfBowsModel" "length" "I", Cond.methodLink RX6 64 yX6_noTown, Cond.instanceMethod yX6_noTown, Cond.selects RX6 yX6_noTown yX6_noTown, Cond.initialized RX6, Cond.code yX6_noTown cX6_noTown 3 none, Cond.fieldLink RX6 13 "LadderOfBowsModel" "persons" "[I", Cond.fieldLink RX6 25 "LadderOfBowsModel" "easters" "[I", Cond.fieldLink RX6 22 "LadderOfBowsModel" "firsts" "[I", Cond.methodLink RX6 106 yX6_item, Cond.instanceMethod yX6_item, Cond.selects RX6 yX6_item yX6_item, Cond.code yX6_item cX6_item 2 (some .boolean), Cond.fieldLink RX6 43 "LadderOfBowsModel" "told" "[I", Cond.constantLong RX6 104 (60), Cond.methodLink RX6 90 yX6_letterAt, Cond.instanceMethod yX6_letterAt, Cond.selects RX6 yX6_letterAt yX6_letterAt, Cond.code yX6_letterAt cX6_letterAt 2 (some .int), Cond.fieldLink RX6 7 "LadderOfBowsModel" "text" "[I", Cond.methodLink RX6 100 yX6_figures, Cond.instanceMethod yX6_figures, Cond.selects RX6 yX6_figures yX6_figures]
def wsX6_readAll_r2 : List Cond := [Cond.code yX6_figures cX6_figures 5 (some .boolean), Cond.constantLong RX6 94 (48), Cond.constantLong RX6 96 (57), Cond.constantLong RX6 98 (2), Cond.methodLink RX6 79 yX6_in, Cond.static yX6_in, Cond.code yX6_in cX6_in 6 (some .boolean), Cond.methodLink RX6 68 yX6_addPerson, Cond.instanceMethod yX6_addPerson, Cond.selects RX6 yX6_addPerson yX6_addPerson, Cond.code yX6_addPerson cX6_addPerson 4 none, Cond.fieldLink RX6 16 "LadderOfBowsModel" "kinds" "[I", Cond.fieldLink RX6 19 "LadderOfBowsModel" "streets" "[I"]
def wsX6_readAll : List Cond := .code yX6_readAll cX6_readAll 2 (some .int) :: ((wsX6_readAll_r1 ++ wsX6_readAll_r2) ++ wsX60)
def wsX6_fault_r1 : List Cond := [Cond.methodLink RX6 110 yX6_readAll, Cond.instanceMethod yX6_readAll, Cond.selects RX6 yX6_readAll yX6_readAll, Cond.initialized RX6, Cond.code yX6_readAll cX6_readAll 2 (some .int), Cond.fieldLink RX6 87 "LadderOfBowsModel" "spot" "I", Cond.fieldLink RX6 83 "LadderOfBowsModel" "length" "I", Cond.methodLink RX6 64 yX6_noTown, Cond.instanceMethod yX6_noTown, Cond.selects RX6 yX6_noTown yX6_noTown, Cond.code yX6_noTown cX6_noTown 3 none, Cond.fieldLink RX6 13 "LadderOfBowsModel" "persons" "[I", Cond.fieldLink RX6 25 "LadderOfBowsModel" "easters" "[I", Cond.fieldLink RX6 22 "LadderOfBowsModel" "firsts" "[I", Cond.methodLink RX6 106 yX6_item, Cond.instanceMethod yX6_item, Cond.selects RX6 yX6_item yX6_item, Cond.code yX6_item cX6_item 2 (some .boolean), Cond.fieldLink RX6 43 "LadderOfBowsModel" "told" "[I", Cond.constantLong RX6 104 (60), Cond.methodLink RX6 90 yX6_letterAt, Cond.instanceMethod yX6_letterAt, Cond.selects RX6 yX6_letterAt yX6_letterAt, Cond.code yX6_letterAt cX6_letterAt 2 (some .int)]
def wsX6_fault_r2 : List Cond := [Cond.fieldLink RX6 7 "LadderOfBowsModel" "text" "[I", Cond.methodLink RX6 100 yX6_figures, Cond.instanceMethod yX6_figures, Cond.selects RX6 yX6_figures yX6_figures, Cond.code yX6_figures cX6_figures 5 (some .boolean), Cond.constantLong RX6 94 (48), Cond.constantLong RX6 96 (57), Cond.constantLong RX6 98 (2), Cond.methodLink RX6 79 yX6_in, Cond.static yX6_in, Cond.code yX6_in cX6_in 6 (some .boolean), Cond.methodLink RX6 68 yX6_addPerson, Cond.instanceMethod yX6_addPerson, Cond.selects RX6 yX6_addPerson yX6_addPerson, Cond.code yX6_addPerson cX6_addPerson 4 none, Cond.fieldLink RX6 16 "LadderOfBowsModel" "kinds" "[I", Cond.fieldLink RX6 19 "LadderOfBowsModel" "streets" "[I"]
def wsX6_fault : List Cond := .code yX6_fault cX6_fault 1 (some .int) :: ((wsX6_fault_r1 ++ wsX6_fault_r2) ++ wsX60)
def wsX6_lay_r1 : List Cond := [Cond.fieldLink RX6 13 "LadderOfBowsModel" "persons" "[I", Cond.fieldLink RX6 25 "LadderOfBowsModel" "easters" "[I", Cond.fieldLink RX6 16 "LadderOfBowsModel" "kinds" "[I", Cond.fieldLink RX6 19 "LadderOfBowsModel" "streets" "[I", Cond.fieldLink RX6 22 "LadderOfBowsModel" "firsts" "[I", Cond.fieldLink RX6 28 "LadderOfBowsModel" "acts" "[I", Cond.fieldLink RX6 114 "LadderOfBowsModel" "keptMany" "I", Cond.fieldLink RX6 117 "LadderOfBowsModel" "silents" "I", Cond.methodLink RX6 110 yX6_readAll, Cond.instanceMethod yX6_readAll, Cond.selects RX6 yX6_readAll yX6_readAll, Cond.initialized RX6, Cond.code yX6_readAll cX6_readAll 2 (some .int), Cond.fieldLink RX6 87 "LadderOfBowsModel" "spot" "I", Cond.fieldLink RX6 83 "LadderOfBowsModel" "length" "I", Cond.methodLink RX6 64 yX6_noTown, Cond.instanceMethod yX6_noTown, Cond.selects RX6 yX6_noTown yX6_noTown, Cond.code yX6_noTown cX6_noTown 3 none, Cond.methodLink RX6 106 yX6_item, Cond.instanceMethod yX6_item, Cond.selects RX6 yX6_item yX6_item, Cond.code yX6_item cX6_item 2 (some .boolean), Cond.fieldLink RX6 43 "LadderOfBowsModel" "told" "[I"]
def wsX6_lay_r2 : List Cond := [Cond.constantLong RX6 104 (60), Cond.methodLink RX6 90 yX6_letterAt, Cond.instanceMethod yX6_letterAt, Cond.selects RX6 yX6_letterAt yX6_letterAt, Cond.code yX6_letterAt cX6_letterAt 2 (some .int), Cond.fieldLink RX6 7 "LadderOfBowsModel" "text" "[I", Cond.methodLink RX6 100 yX6_figures, Cond.instanceMethod yX6_figures, Cond.selects RX6 yX6_figures yX6_figures, Cond.code yX6_figures cX6_figures 5 (some .boolean), Cond.constantLong RX6 94 (48), Cond.constantLong RX6 96 (57), Cond.constantLong RX6 98 (2), Cond.methodLink RX6 79 yX6_in, Cond.static yX6_in, Cond.code yX6_in cX6_in 6 (some .boolean), Cond.methodLink RX6 68 yX6_addPerson, Cond.instanceMethod yX6_addPerson, Cond.selects RX6 yX6_addPerson yX6_addPerson, Cond.code yX6_addPerson cX6_addPerson 4 none, Cond.methodLink RX6 72 yX6_begin, Cond.instanceMethod yX6_begin, Cond.selects RX6 yX6_begin yX6_begin, Cond.code yX6_begin cX6_begin 1 none]
def wsX6_lay_r3 : List Cond := [Cond.methodLink RX6 172 yX6_beginBut, Cond.instanceMethod yX6_beginBut, Cond.selects RX6 yX6_beginBut yX6_beginBut, Cond.code yX6_beginBut cX6_beginBut 4 none, Cond.fieldLink RX6 46 "LadderOfBowsModel" "debts" "[I", Cond.fieldLink RX6 49 "LadderOfBowsModel" "alive" "[I", Cond.fieldLink RX6 52 "LadderOfBowsModel" "day" "[I", Cond.fieldLink RX6 55 "LadderOfBowsModel" "many" "[I", Cond.fieldLink RX6 31 "LadderOfBowsModel" "actKind" "[I", Cond.fieldLink RX6 34 "LadderOfBowsModel" "actOne" "[I", Cond.fieldLink RX6 37 "LadderOfBowsModel" "actTwo" "[I", Cond.methodLink RX6 165 yX6_canDo, Cond.instanceMethod yX6_canDo, Cond.selects RX6 yX6_canDo yX6_canDo, Cond.code yX6_canDo cX6_canDo 5 (some .boolean), Cond.methodLink RX6 135 yX6_isAlive, Cond.instanceMethod yX6_isAlive, Cond.selects RX6 yX6_isAlive yX6_isAlive, Cond.code yX6_isAlive cX6_isAlive 3 (some .boolean), Cond.methodLink RX6 131 yX6_has, Cond.static yX6_has, Cond.code yX6_has cX6_has 2 (some .boolean), Cond.methodLink RX6 123 yX6_debt, Cond.instanceMethod yX6_debt]
def wsX6_lay_r4 : List Cond := [Cond.selects RX6 yX6_debt yX6_debt, Cond.code yX6_debt cX6_debt 4 (some .int), Cond.methodLink RX6 145 yX6_canBow, Cond.instanceMethod yX6_canBow, Cond.selects RX6 yX6_canBow yX6_canBow, Cond.code yX6_canBow cX6_canBow 4 (some .boolean), Cond.methodLink RX6 138 yX6_takes, Cond.instanceMethod yX6_takes, Cond.selects RX6 yX6_takes yX6_takes, Cond.code yX6_takes cX6_takes 3 (some .boolean), Cond.methodLink RX6 127 yX6_debtsOf, Cond.instanceMethod yX6_debtsOf, Cond.selects RX6 yX6_debtsOf yX6_debtsOf, Cond.code yX6_debtsOf cX6_debtsOf 5 (some .int), Cond.methodLink RX6 149 yX6_canAtOnce, Cond.instanceMethod yX6_canAtOnce, Cond.selects RX6 yX6_canAtOnce yX6_canAtOnce, Cond.code yX6_canAtOnce cX6_canAtOnce 4 (some .boolean), Cond.methodLink RX6 169 yX6_doAct, Cond.instanceMethod yX6_doAct, Cond.selects RX6 yX6_doAct yX6_doAct, Cond.code yX6_doAct cX6_doAct 6 none, Cond.methodLink RX6 141 yX6_setDebt, Cond.instanceMethod yX6_setDebt]
def wsX6_lay_r5 : List Cond := [Cond.selects RX6 yX6_setDebt yX6_setDebt, Cond.code yX6_setDebt cX6_setDebt 5 none, Cond.methodLink RX6 152 yX6_pays, Cond.instanceMethod yX6_pays, Cond.selects RX6 yX6_pays yX6_pays, Cond.code yX6_pays cX6_pays 4 (some .int), Cond.methodLink RX6 155 yX6_bothBow, Cond.instanceMethod yX6_bothBow, Cond.selects RX6 yX6_bothBow yX6_bothBow, Cond.code yX6_bothBow cX6_bothBow 6 none, Cond.methodLink RX6 158 yX6_dies, Cond.instanceMethod yX6_dies, Cond.selects RX6 yX6_dies yX6_dies, Cond.code yX6_dies cX6_dies 4 none, Cond.methodLink RX6 162 yX6_goDay, Cond.instanceMethod yX6_goDay, Cond.selects RX6 yX6_goDay yX6_goDay, Cond.code yX6_goDay cX6_goDay 4 none]
def wsX6_lay : List Cond := .code yX6_lay cX6_lay 2 (some .int) :: ((wsX6_lay_r1 ++ (wsX6_lay_r2 ++ (wsX6_lay_r3 ++ (wsX6_lay_r4 ++ wsX6_lay_r5)))) ++ wsX60)
def wsX6_isPerson : List Cond := .code yX6_isPerson cX6_isPerson 2 (some .boolean) :: ([.fieldLink RX6 13 "LadderOfBowsModel" "persons" "[I", .methodLink RX6 79 yX6_in, .static yX6_in, .initialized RX6, .code yX6_in cX6_in 6 (some .boolean)] ++ wsX60)
def wsX6_areTwo : List Cond := .code yX6_areTwo cX6_areTwo 3 (some .boolean) :: ([.methodLink RX6 120 yX6_isPerson, .instanceMethod yX6_isPerson, .selects RX6 yX6_isPerson yX6_isPerson, .initialized RX6, .code yX6_isPerson cX6_isPerson 2 (some .boolean), .fieldLink RX6 13 "LadderOfBowsModel" "persons" "[I", .methodLink RX6 79 yX6_in, .static yX6_in, .code yX6_in cX6_in 6 (some .boolean)] ++ wsX60)
def wsX6_owedTo : List Cond := .code yX6_owedTo cX6_owedTo 5 (some .int) :: ([.methodLink RX6 123 yX6_debt, .instanceMethod yX6_debt, .selects RX6 yX6_debt yX6_debt, .initialized RX6, .code yX6_debt cX6_debt 4 (some .int), .fieldLink RX6 46 "LadderOfBowsModel" "debts" "[I"] ++ wsX60)
def wsX6_allOf : List Cond := .code yX6_allOf cX6_allOf 4 (some .int) :: ([.methodLink RX6 127 yX6_debtsOf, .instanceMethod yX6_debtsOf, .selects RX6 yX6_debtsOf yX6_debtsOf, .initialized RX6, .code yX6_debtsOf cX6_debtsOf 5 (some .int), .methodLink RX6 123 yX6_debt, .instanceMethod yX6_debt, .selects RX6 yX6_debt yX6_debt, .code yX6_debt cX6_debt 4 (some .int), .fieldLink RX6 46 "LadderOfBowsModel" "debts" "[I"] ++ wsX60)
def wsX6_maySpeak : List Cond := .code yX6_maySpeak cX6_maySpeak 4 (some .boolean) :: ([.methodLink RX6 135 yX6_isAlive, .instanceMethod yX6_isAlive, .selects RX6 yX6_isAlive yX6_isAlive, .initialized RX6, .code yX6_isAlive cX6_isAlive 3 (some .boolean), .fieldLink RX6 49 "LadderOfBowsModel" "alive" "[I", .methodLink RX6 131 yX6_has, .static yX6_has, .code yX6_has cX6_has 2 (some .boolean), .methodLink RX6 123 yX6_debt, .instanceMethod yX6_debt, .selects RX6 yX6_debt yX6_debt, .code yX6_debt cX6_debt 4 (some .int), .fieldLink RX6 46 "LadderOfBowsModel" "debts" "[I"] ++ wsX60)
def wsX6_copy : List Cond := .code yX6_copy cX6_copy 4 none :: ([.fieldLink RX6 46 "LadderOfBowsModel" "debts" "[I", .fieldLink RX6 49 "LadderOfBowsModel" "alive" "[I", .fieldLink RX6 52 "LadderOfBowsModel" "day" "[I", .fieldLink RX6 55 "LadderOfBowsModel" "many" "[I"] ++ wsX60)
def wsX6_person_r1 : List Cond := [Cond.constantLong RX6 175 (5), Cond.fieldLink RX6 16 "LadderOfBowsModel" "kinds" "[I", Cond.fieldLink RX6 19 "LadderOfBowsModel" "streets" "[I", Cond.methodLink RX6 120 yX6_isPerson, Cond.instanceMethod yX6_isPerson, Cond.selects RX6 yX6_isPerson yX6_isPerson, Cond.initialized RX6, Cond.code yX6_isPerson cX6_isPerson 2 (some .boolean), Cond.fieldLink RX6 13 "LadderOfBowsModel" "persons" "[I", Cond.methodLink RX6 79 yX6_in, Cond.static yX6_in, Cond.code yX6_in cX6_in 6 (some .boolean), Cond.methodLink RX6 135 yX6_isAlive, Cond.instanceMethod yX6_isAlive, Cond.selects RX6 yX6_isAlive yX6_isAlive, Cond.code yX6_isAlive cX6_isAlive 3 (some .boolean), Cond.fieldLink RX6 49 "LadderOfBowsModel" "alive" "[I", Cond.methodLink RX6 131 yX6_has, Cond.static yX6_has, Cond.code yX6_has cX6_has 2 (some .boolean), Cond.methodLink RX6 127 yX6_debtsOf, Cond.instanceMethod yX6_debtsOf, Cond.selects RX6 yX6_debtsOf yX6_debtsOf, Cond.code yX6_debtsOf cX6_debtsOf 5 (some .int)]
def wsX6_person_r2 : List Cond := [Cond.methodLink RX6 123 yX6_debt, Cond.instanceMethod yX6_debt, Cond.selects RX6 yX6_debt yX6_debt, Cond.code yX6_debt cX6_debt 4 (some .int), Cond.fieldLink RX6 46 "LadderOfBowsModel" "debts" "[I", Cond.methodLink RX6 177 yX6_owedTo, Cond.instanceMethod yX6_owedTo, Cond.selects RX6 yX6_owedTo yX6_owedTo, Cond.code yX6_owedTo cX6_owedTo 5 (some .int), Cond.methodLink RX6 138 yX6_takes, Cond.instanceMethod yX6_takes, Cond.selects RX6 yX6_takes yX6_takes, Cond.code yX6_takes cX6_takes 3 (some .boolean)]
def wsX6_person : List Cond := .code yX6_person cX6_person 3 (some .int) :: ((wsX6_person_r1 ++ wsX6_person_r2) ++ wsX60)
def wsX6_owes : List Cond := .code yX6_owes cX6_owes 3 (some .int) :: ([.methodLink RX6 180 yX6_areTwo, .instanceMethod yX6_areTwo, .selects RX6 yX6_areTwo yX6_areTwo, .initialized RX6, .code yX6_areTwo cX6_areTwo 3 (some .boolean), .methodLink RX6 120 yX6_isPerson, .instanceMethod yX6_isPerson, .selects RX6 yX6_isPerson yX6_isPerson, .code yX6_isPerson cX6_isPerson 2 (some .boolean), .fieldLink RX6 13 "LadderOfBowsModel" "persons" "[I", .methodLink RX6 79 yX6_in, .static yX6_in, .code yX6_in cX6_in 6 (some .boolean), .methodLink RX6 123 yX6_debt, .instanceMethod yX6_debt, .selects RX6 yX6_debt yX6_debt, .code yX6_debt cX6_debt 4 (some .int), .fieldLink RX6 46 "LadderOfBowsModel" "debts" "[I"] ++ wsX60)
def wsX6_speak_r1 : List Cond := [Cond.methodLink RX6 180 yX6_areTwo, Cond.instanceMethod yX6_areTwo, Cond.selects RX6 yX6_areTwo yX6_areTwo, Cond.initialized RX6, Cond.code yX6_areTwo cX6_areTwo 3 (some .boolean), Cond.methodLink RX6 120 yX6_isPerson, Cond.instanceMethod yX6_isPerson, Cond.selects RX6 yX6_isPerson yX6_isPerson, Cond.code yX6_isPerson cX6_isPerson 2 (some .boolean), Cond.fieldLink RX6 13 "LadderOfBowsModel" "persons" "[I", Cond.methodLink RX6 79 yX6_in, Cond.static yX6_in, Cond.code yX6_in cX6_in 6 (some .boolean), Cond.methodLink RX6 183 yX6_maySpeak, Cond.instanceMethod yX6_maySpeak, Cond.selects RX6 yX6_maySpeak yX6_maySpeak, Cond.code yX6_maySpeak cX6_maySpeak 4 (some .boolean), Cond.methodLink RX6 135 yX6_isAlive, Cond.instanceMethod yX6_isAlive, Cond.selects RX6 yX6_isAlive yX6_isAlive, Cond.code yX6_isAlive cX6_isAlive 3 (some .boolean), Cond.fieldLink RX6 49 "LadderOfBowsModel" "alive" "[I", Cond.methodLink RX6 131 yX6_has, Cond.static yX6_has]
def wsX6_speak_r2 : List Cond := [Cond.code yX6_has cX6_has 2 (some .boolean), Cond.methodLink RX6 123 yX6_debt, Cond.instanceMethod yX6_debt, Cond.selects RX6 yX6_debt yX6_debt, Cond.code yX6_debt cX6_debt 4 (some .int), Cond.fieldLink RX6 46 "LadderOfBowsModel" "debts" "[I"]
def wsX6_speak : List Cond := .code yX6_speak cX6_speak 3 (some .int) :: ((wsX6_speak_r1 ++ wsX6_speak_r2) ++ wsX60)
def wsX6_act_r1 : List Cond := [Cond.fieldLink RX6 28 "LadderOfBowsModel" "acts" "[I", Cond.fieldLink RX6 31 "LadderOfBowsModel" "actKind" "[I", Cond.fieldLink RX6 34 "LadderOfBowsModel" "actOne" "[I", Cond.fieldLink RX6 37 "LadderOfBowsModel" "actTwo" "[I", Cond.methodLink RX6 165 yX6_canDo, Cond.instanceMethod yX6_canDo, Cond.selects RX6 yX6_canDo yX6_canDo, Cond.initialized RX6, Cond.code yX6_canDo cX6_canDo 5 (some .boolean), Cond.methodLink RX6 135 yX6_isAlive, Cond.instanceMethod yX6_isAlive, Cond.selects RX6 yX6_isAlive yX6_isAlive, Cond.code yX6_isAlive cX6_isAlive 3 (some .boolean), Cond.fieldLink RX6 49 "LadderOfBowsModel" "alive" "[I", Cond.methodLink RX6 131 yX6_has, Cond.static yX6_has, Cond.code yX6_has cX6_has 2 (some .boolean), Cond.methodLink RX6 123 yX6_debt, Cond.instanceMethod yX6_debt, Cond.selects RX6 yX6_debt yX6_debt, Cond.code yX6_debt cX6_debt 4 (some .int), Cond.fieldLink RX6 46 "LadderOfBowsModel" "debts" "[I", Cond.methodLink RX6 145 yX6_canBow, Cond.instanceMethod yX6_canBow]
def wsX6_act_r2 : List Cond := [Cond.selects RX6 yX6_canBow yX6_canBow, Cond.code yX6_canBow cX6_canBow 4 (some .boolean), Cond.methodLink RX6 138 yX6_takes, Cond.instanceMethod yX6_takes, Cond.selects RX6 yX6_takes yX6_takes, Cond.code yX6_takes cX6_takes 3 (some .boolean), Cond.fieldLink RX6 16 "LadderOfBowsModel" "kinds" "[I", Cond.methodLink RX6 127 yX6_debtsOf, Cond.instanceMethod yX6_debtsOf, Cond.selects RX6 yX6_debtsOf yX6_debtsOf, Cond.code yX6_debtsOf cX6_debtsOf 5 (some .int), Cond.methodLink RX6 149 yX6_canAtOnce, Cond.instanceMethod yX6_canAtOnce, Cond.selects RX6 yX6_canAtOnce yX6_canAtOnce, Cond.code yX6_canAtOnce cX6_canAtOnce 4 (some .boolean), Cond.methodLink RX6 169 yX6_doAct, Cond.instanceMethod yX6_doAct, Cond.selects RX6 yX6_doAct yX6_doAct, Cond.code yX6_doAct cX6_doAct 6 none, Cond.methodLink RX6 141 yX6_setDebt, Cond.instanceMethod yX6_setDebt, Cond.selects RX6 yX6_setDebt yX6_setDebt, Cond.code yX6_setDebt cX6_setDebt 5 none, Cond.methodLink RX6 152 yX6_pays]
def wsX6_act_r3 : List Cond := [Cond.instanceMethod yX6_pays, Cond.selects RX6 yX6_pays yX6_pays, Cond.code yX6_pays cX6_pays 4 (some .int), Cond.fieldLink RX6 52 "LadderOfBowsModel" "day" "[I", Cond.methodLink RX6 155 yX6_bothBow, Cond.instanceMethod yX6_bothBow, Cond.selects RX6 yX6_bothBow yX6_bothBow, Cond.code yX6_bothBow cX6_bothBow 6 none, Cond.methodLink RX6 158 yX6_dies, Cond.instanceMethod yX6_dies, Cond.selects RX6 yX6_dies yX6_dies, Cond.code yX6_dies cX6_dies 4 none, Cond.methodLink RX6 162 yX6_goDay, Cond.instanceMethod yX6_goDay, Cond.selects RX6 yX6_goDay yX6_goDay, Cond.code yX6_goDay cX6_goDay 4 none, Cond.fieldLink RX6 55 "LadderOfBowsModel" "many" "[I"]
def wsX6_act : List Cond := .code yX6_act cX6_act 4 (some .int) :: ((wsX6_act_r1 ++ (wsX6_act_r2 ++ wsX6_act_r3)) ++ wsX60)
def wsX6_actOfTwo_r1 : List Cond := [Cond.methodLink RX6 180 yX6_areTwo, Cond.instanceMethod yX6_areTwo, Cond.selects RX6 yX6_areTwo yX6_areTwo, Cond.initialized RX6, Cond.code yX6_areTwo cX6_areTwo 3 (some .boolean), Cond.methodLink RX6 120 yX6_isPerson, Cond.instanceMethod yX6_isPerson, Cond.selects RX6 yX6_isPerson yX6_isPerson, Cond.code yX6_isPerson cX6_isPerson 2 (some .boolean), Cond.fieldLink RX6 13 "LadderOfBowsModel" "persons" "[I", Cond.methodLink RX6 79 yX6_in, Cond.static yX6_in, Cond.code yX6_in cX6_in 6 (some .boolean), Cond.methodLink RX6 186 yX6_act, Cond.instanceMethod yX6_act, Cond.selects RX6 yX6_act yX6_act, Cond.code yX6_act cX6_act 4 (some .int), Cond.fieldLink RX6 28 "LadderOfBowsModel" "acts" "[I", Cond.fieldLink RX6 31 "LadderOfBowsModel" "actKind" "[I", Cond.fieldLink RX6 34 "LadderOfBowsModel" "actOne" "[I", Cond.fieldLink RX6 37 "LadderOfBowsModel" "actTwo" "[I", Cond.methodLink RX6 165 yX6_canDo, Cond.instanceMethod yX6_canDo, Cond.selects RX6 yX6_canDo yX6_canDo]
def wsX6_actOfTwo_r2 : List Cond := [Cond.code yX6_canDo cX6_canDo 5 (some .boolean), Cond.methodLink RX6 135 yX6_isAlive, Cond.instanceMethod yX6_isAlive, Cond.selects RX6 yX6_isAlive yX6_isAlive, Cond.code yX6_isAlive cX6_isAlive 3 (some .boolean), Cond.fieldLink RX6 49 "LadderOfBowsModel" "alive" "[I", Cond.methodLink RX6 131 yX6_has, Cond.static yX6_has, Cond.code yX6_has cX6_has 2 (some .boolean), Cond.methodLink RX6 123 yX6_debt, Cond.instanceMethod yX6_debt, Cond.selects RX6 yX6_debt yX6_debt, Cond.code yX6_debt cX6_debt 4 (some .int), Cond.fieldLink RX6 46 "LadderOfBowsModel" "debts" "[I", Cond.methodLink RX6 145 yX6_canBow, Cond.instanceMethod yX6_canBow, Cond.selects RX6 yX6_canBow yX6_canBow, Cond.code yX6_canBow cX6_canBow 4 (some .boolean), Cond.methodLink RX6 138 yX6_takes, Cond.instanceMethod yX6_takes, Cond.selects RX6 yX6_takes yX6_takes, Cond.code yX6_takes cX6_takes 3 (some .boolean), Cond.fieldLink RX6 16 "LadderOfBowsModel" "kinds" "[I", Cond.methodLink RX6 127 yX6_debtsOf]
def wsX6_actOfTwo_r3 : List Cond := [Cond.instanceMethod yX6_debtsOf, Cond.selects RX6 yX6_debtsOf yX6_debtsOf, Cond.code yX6_debtsOf cX6_debtsOf 5 (some .int), Cond.methodLink RX6 149 yX6_canAtOnce, Cond.instanceMethod yX6_canAtOnce, Cond.selects RX6 yX6_canAtOnce yX6_canAtOnce, Cond.code yX6_canAtOnce cX6_canAtOnce 4 (some .boolean), Cond.methodLink RX6 169 yX6_doAct, Cond.instanceMethod yX6_doAct, Cond.selects RX6 yX6_doAct yX6_doAct, Cond.code yX6_doAct cX6_doAct 6 none, Cond.methodLink RX6 141 yX6_setDebt, Cond.instanceMethod yX6_setDebt, Cond.selects RX6 yX6_setDebt yX6_setDebt, Cond.code yX6_setDebt cX6_setDebt 5 none, Cond.methodLink RX6 152 yX6_pays, Cond.instanceMethod yX6_pays, Cond.selects RX6 yX6_pays yX6_pays, Cond.code yX6_pays cX6_pays 4 (some .int), Cond.fieldLink RX6 52 "LadderOfBowsModel" "day" "[I", Cond.methodLink RX6 155 yX6_bothBow, Cond.instanceMethod yX6_bothBow, Cond.selects RX6 yX6_bothBow yX6_bothBow, Cond.code yX6_bothBow cX6_bothBow 6 none]
def wsX6_actOfTwo_r4 : List Cond := [Cond.methodLink RX6 158 yX6_dies, Cond.instanceMethod yX6_dies, Cond.selects RX6 yX6_dies yX6_dies, Cond.code yX6_dies cX6_dies 4 none, Cond.methodLink RX6 162 yX6_goDay, Cond.instanceMethod yX6_goDay, Cond.selects RX6 yX6_goDay yX6_goDay, Cond.code yX6_goDay cX6_goDay 4 none, Cond.fieldLink RX6 55 "LadderOfBowsModel" "many" "[I"]
def wsX6_actOfTwo : List Cond := .code yX6_actOfTwo cX6_actOfTwo 5 (some .int) :: ((wsX6_actOfTwo_r1 ++ (wsX6_actOfTwo_r2 ++ (wsX6_actOfTwo_r3 ++ wsX6_actOfTwo_r4))) ++ wsX60)
def wsX6_wrong_r1 : List Cond := [Cond.methodLink RX6 189 yX6_actOfTwo, Cond.instanceMethod yX6_actOfTwo, Cond.selects RX6 yX6_actOfTwo yX6_actOfTwo, Cond.initialized RX6, Cond.code yX6_actOfTwo cX6_actOfTwo 5 (some .int), Cond.methodLink RX6 180 yX6_areTwo, Cond.instanceMethod yX6_areTwo, Cond.selects RX6 yX6_areTwo yX6_areTwo, Cond.code yX6_areTwo cX6_areTwo 3 (some .boolean), Cond.methodLink RX6 120 yX6_isPerson, Cond.instanceMethod yX6_isPerson, Cond.selects RX6 yX6_isPerson yX6_isPerson, Cond.code yX6_isPerson cX6_isPerson 2 (some .boolean), Cond.fieldLink RX6 13 "LadderOfBowsModel" "persons" "[I", Cond.methodLink RX6 79 yX6_in, Cond.static yX6_in, Cond.code yX6_in cX6_in 6 (some .boolean), Cond.methodLink RX6 186 yX6_act, Cond.instanceMethod yX6_act, Cond.selects RX6 yX6_act yX6_act, Cond.code yX6_act cX6_act 4 (some .int), Cond.fieldLink RX6 28 "LadderOfBowsModel" "acts" "[I", Cond.fieldLink RX6 31 "LadderOfBowsModel" "actKind" "[I", Cond.fieldLink RX6 34 "LadderOfBowsModel" "actOne" "[I"]
def wsX6_wrong_r2 : List Cond := [Cond.fieldLink RX6 37 "LadderOfBowsModel" "actTwo" "[I", Cond.methodLink RX6 165 yX6_canDo, Cond.instanceMethod yX6_canDo, Cond.selects RX6 yX6_canDo yX6_canDo, Cond.code yX6_canDo cX6_canDo 5 (some .boolean), Cond.methodLink RX6 135 yX6_isAlive, Cond.instanceMethod yX6_isAlive, Cond.selects RX6 yX6_isAlive yX6_isAlive, Cond.code yX6_isAlive cX6_isAlive 3 (some .boolean), Cond.fieldLink RX6 49 "LadderOfBowsModel" "alive" "[I", Cond.methodLink RX6 131 yX6_has, Cond.static yX6_has, Cond.code yX6_has cX6_has 2 (some .boolean), Cond.methodLink RX6 123 yX6_debt, Cond.instanceMethod yX6_debt, Cond.selects RX6 yX6_debt yX6_debt, Cond.code yX6_debt cX6_debt 4 (some .int), Cond.fieldLink RX6 46 "LadderOfBowsModel" "debts" "[I", Cond.methodLink RX6 145 yX6_canBow, Cond.instanceMethod yX6_canBow, Cond.selects RX6 yX6_canBow yX6_canBow, Cond.code yX6_canBow cX6_canBow 4 (some .boolean), Cond.methodLink RX6 138 yX6_takes, Cond.instanceMethod yX6_takes]
def wsX6_wrong_r3 : List Cond := [Cond.selects RX6 yX6_takes yX6_takes, Cond.code yX6_takes cX6_takes 3 (some .boolean), Cond.fieldLink RX6 16 "LadderOfBowsModel" "kinds" "[I", Cond.methodLink RX6 127 yX6_debtsOf, Cond.instanceMethod yX6_debtsOf, Cond.selects RX6 yX6_debtsOf yX6_debtsOf, Cond.code yX6_debtsOf cX6_debtsOf 5 (some .int), Cond.methodLink RX6 149 yX6_canAtOnce, Cond.instanceMethod yX6_canAtOnce, Cond.selects RX6 yX6_canAtOnce yX6_canAtOnce, Cond.code yX6_canAtOnce cX6_canAtOnce 4 (some .boolean), Cond.methodLink RX6 169 yX6_doAct, Cond.instanceMethod yX6_doAct, Cond.selects RX6 yX6_doAct yX6_doAct, Cond.code yX6_doAct cX6_doAct 6 none, Cond.methodLink RX6 141 yX6_setDebt, Cond.instanceMethod yX6_setDebt, Cond.selects RX6 yX6_setDebt yX6_setDebt, Cond.code yX6_setDebt cX6_setDebt 5 none, Cond.methodLink RX6 152 yX6_pays, Cond.instanceMethod yX6_pays, Cond.selects RX6 yX6_pays yX6_pays, Cond.code yX6_pays cX6_pays 4 (some .int), Cond.fieldLink RX6 52 "LadderOfBowsModel" "day" "[I"]
def wsX6_wrong_r4 : List Cond := [Cond.methodLink RX6 155 yX6_bothBow, Cond.instanceMethod yX6_bothBow, Cond.selects RX6 yX6_bothBow yX6_bothBow, Cond.code yX6_bothBow cX6_bothBow 6 none, Cond.methodLink RX6 158 yX6_dies, Cond.instanceMethod yX6_dies, Cond.selects RX6 yX6_dies yX6_dies, Cond.code yX6_dies cX6_dies 4 none, Cond.methodLink RX6 162 yX6_goDay, Cond.instanceMethod yX6_goDay, Cond.selects RX6 yX6_goDay yX6_goDay, Cond.code yX6_goDay cX6_goDay 4 none, Cond.fieldLink RX6 55 "LadderOfBowsModel" "many" "[I"]
def wsX6_wrong : List Cond := .code yX6_wrong cX6_wrong 3 (some .int) :: ((wsX6_wrong_r1 ++ (wsX6_wrong_r2 ++ (wsX6_wrong_r3 ++ wsX6_wrong_r4))) ++ wsX60)
def wsX6_bow_r1 : List Cond := [Cond.methodLink RX6 189 yX6_actOfTwo, Cond.instanceMethod yX6_actOfTwo, Cond.selects RX6 yX6_actOfTwo yX6_actOfTwo, Cond.initialized RX6, Cond.code yX6_actOfTwo cX6_actOfTwo 5 (some .int), Cond.methodLink RX6 180 yX6_areTwo, Cond.instanceMethod yX6_areTwo, Cond.selects RX6 yX6_areTwo yX6_areTwo, Cond.code yX6_areTwo cX6_areTwo 3 (some .boolean), Cond.methodLink RX6 120 yX6_isPerson, Cond.instanceMethod yX6_isPerson, Cond.selects RX6 yX6_isPerson yX6_isPerson, Cond.code yX6_isPerson cX6_isPerson 2 (some .boolean), Cond.fieldLink RX6 13 "LadderOfBowsModel" "persons" "[I", Cond.methodLink RX6 79 yX6_in, Cond.static yX6_in, Cond.code yX6_in cX6_in 6 (some .boolean), Cond.methodLink RX6 186 yX6_act, Cond.instanceMethod yX6_act, Cond.selects RX6 yX6_act yX6_act, Cond.code yX6_act cX6_act 4 (some .int), Cond.fieldLink RX6 28 "LadderOfBowsModel" "acts" "[I", Cond.fieldLink RX6 31 "LadderOfBowsModel" "actKind" "[I", Cond.fieldLink RX6 34 "LadderOfBowsModel" "actOne" "[I"]
def wsX6_bow_r2 : List Cond := [Cond.fieldLink RX6 37 "LadderOfBowsModel" "actTwo" "[I", Cond.methodLink RX6 165 yX6_canDo, Cond.instanceMethod yX6_canDo, Cond.selects RX6 yX6_canDo yX6_canDo, Cond.code yX6_canDo cX6_canDo 5 (some .boolean), Cond.methodLink RX6 135 yX6_isAlive, Cond.instanceMethod yX6_isAlive, Cond.selects RX6 yX6_isAlive yX6_isAlive, Cond.code yX6_isAlive cX6_isAlive 3 (some .boolean), Cond.fieldLink RX6 49 "LadderOfBowsModel" "alive" "[I", Cond.methodLink RX6 131 yX6_has, Cond.static yX6_has, Cond.code yX6_has cX6_has 2 (some .boolean), Cond.methodLink RX6 123 yX6_debt, Cond.instanceMethod yX6_debt, Cond.selects RX6 yX6_debt yX6_debt, Cond.code yX6_debt cX6_debt 4 (some .int), Cond.fieldLink RX6 46 "LadderOfBowsModel" "debts" "[I", Cond.methodLink RX6 145 yX6_canBow, Cond.instanceMethod yX6_canBow, Cond.selects RX6 yX6_canBow yX6_canBow, Cond.code yX6_canBow cX6_canBow 4 (some .boolean), Cond.methodLink RX6 138 yX6_takes, Cond.instanceMethod yX6_takes]
def wsX6_bow_r3 : List Cond := [Cond.selects RX6 yX6_takes yX6_takes, Cond.code yX6_takes cX6_takes 3 (some .boolean), Cond.fieldLink RX6 16 "LadderOfBowsModel" "kinds" "[I", Cond.methodLink RX6 127 yX6_debtsOf, Cond.instanceMethod yX6_debtsOf, Cond.selects RX6 yX6_debtsOf yX6_debtsOf, Cond.code yX6_debtsOf cX6_debtsOf 5 (some .int), Cond.methodLink RX6 149 yX6_canAtOnce, Cond.instanceMethod yX6_canAtOnce, Cond.selects RX6 yX6_canAtOnce yX6_canAtOnce, Cond.code yX6_canAtOnce cX6_canAtOnce 4 (some .boolean), Cond.methodLink RX6 169 yX6_doAct, Cond.instanceMethod yX6_doAct, Cond.selects RX6 yX6_doAct yX6_doAct, Cond.code yX6_doAct cX6_doAct 6 none, Cond.methodLink RX6 141 yX6_setDebt, Cond.instanceMethod yX6_setDebt, Cond.selects RX6 yX6_setDebt yX6_setDebt, Cond.code yX6_setDebt cX6_setDebt 5 none, Cond.methodLink RX6 152 yX6_pays, Cond.instanceMethod yX6_pays, Cond.selects RX6 yX6_pays yX6_pays, Cond.code yX6_pays cX6_pays 4 (some .int), Cond.fieldLink RX6 52 "LadderOfBowsModel" "day" "[I"]
def wsX6_bow_r4 : List Cond := [Cond.methodLink RX6 155 yX6_bothBow, Cond.instanceMethod yX6_bothBow, Cond.selects RX6 yX6_bothBow yX6_bothBow, Cond.code yX6_bothBow cX6_bothBow 6 none, Cond.methodLink RX6 158 yX6_dies, Cond.instanceMethod yX6_dies, Cond.selects RX6 yX6_dies yX6_dies, Cond.code yX6_dies cX6_dies 4 none, Cond.methodLink RX6 162 yX6_goDay, Cond.instanceMethod yX6_goDay, Cond.selects RX6 yX6_goDay yX6_goDay, Cond.code yX6_goDay cX6_goDay 4 none, Cond.fieldLink RX6 55 "LadderOfBowsModel" "many" "[I"]
def wsX6_bow : List Cond := .code yX6_bow cX6_bow 3 (some .int) :: ((wsX6_bow_r1 ++ (wsX6_bow_r2 ++ (wsX6_bow_r3 ++ wsX6_bow_r4))) ++ wsX60)
def wsX6_refuse_r1 : List Cond := [Cond.methodLink RX6 189 yX6_actOfTwo, Cond.instanceMethod yX6_actOfTwo, Cond.selects RX6 yX6_actOfTwo yX6_actOfTwo, Cond.initialized RX6, Cond.code yX6_actOfTwo cX6_actOfTwo 5 (some .int), Cond.methodLink RX6 180 yX6_areTwo, Cond.instanceMethod yX6_areTwo, Cond.selects RX6 yX6_areTwo yX6_areTwo, Cond.code yX6_areTwo cX6_areTwo 3 (some .boolean), Cond.methodLink RX6 120 yX6_isPerson, Cond.instanceMethod yX6_isPerson, Cond.selects RX6 yX6_isPerson yX6_isPerson, Cond.code yX6_isPerson cX6_isPerson 2 (some .boolean), Cond.fieldLink RX6 13 "LadderOfBowsModel" "persons" "[I", Cond.methodLink RX6 79 yX6_in, Cond.static yX6_in, Cond.code yX6_in cX6_in 6 (some .boolean), Cond.methodLink RX6 186 yX6_act, Cond.instanceMethod yX6_act, Cond.selects RX6 yX6_act yX6_act, Cond.code yX6_act cX6_act 4 (some .int), Cond.fieldLink RX6 28 "LadderOfBowsModel" "acts" "[I", Cond.fieldLink RX6 31 "LadderOfBowsModel" "actKind" "[I", Cond.fieldLink RX6 34 "LadderOfBowsModel" "actOne" "[I"]
def wsX6_refuse_r2 : List Cond := [Cond.fieldLink RX6 37 "LadderOfBowsModel" "actTwo" "[I", Cond.methodLink RX6 165 yX6_canDo, Cond.instanceMethod yX6_canDo, Cond.selects RX6 yX6_canDo yX6_canDo, Cond.code yX6_canDo cX6_canDo 5 (some .boolean), Cond.methodLink RX6 135 yX6_isAlive, Cond.instanceMethod yX6_isAlive, Cond.selects RX6 yX6_isAlive yX6_isAlive, Cond.code yX6_isAlive cX6_isAlive 3 (some .boolean), Cond.fieldLink RX6 49 "LadderOfBowsModel" "alive" "[I", Cond.methodLink RX6 131 yX6_has, Cond.static yX6_has, Cond.code yX6_has cX6_has 2 (some .boolean), Cond.methodLink RX6 123 yX6_debt, Cond.instanceMethod yX6_debt, Cond.selects RX6 yX6_debt yX6_debt, Cond.code yX6_debt cX6_debt 4 (some .int), Cond.fieldLink RX6 46 "LadderOfBowsModel" "debts" "[I", Cond.methodLink RX6 145 yX6_canBow, Cond.instanceMethod yX6_canBow, Cond.selects RX6 yX6_canBow yX6_canBow, Cond.code yX6_canBow cX6_canBow 4 (some .boolean), Cond.methodLink RX6 138 yX6_takes, Cond.instanceMethod yX6_takes]
def wsX6_refuse_r3 : List Cond := [Cond.selects RX6 yX6_takes yX6_takes, Cond.code yX6_takes cX6_takes 3 (some .boolean), Cond.fieldLink RX6 16 "LadderOfBowsModel" "kinds" "[I", Cond.methodLink RX6 127 yX6_debtsOf, Cond.instanceMethod yX6_debtsOf, Cond.selects RX6 yX6_debtsOf yX6_debtsOf, Cond.code yX6_debtsOf cX6_debtsOf 5 (some .int), Cond.methodLink RX6 149 yX6_canAtOnce, Cond.instanceMethod yX6_canAtOnce, Cond.selects RX6 yX6_canAtOnce yX6_canAtOnce, Cond.code yX6_canAtOnce cX6_canAtOnce 4 (some .boolean), Cond.methodLink RX6 169 yX6_doAct, Cond.instanceMethod yX6_doAct, Cond.selects RX6 yX6_doAct yX6_doAct, Cond.code yX6_doAct cX6_doAct 6 none, Cond.methodLink RX6 141 yX6_setDebt, Cond.instanceMethod yX6_setDebt, Cond.selects RX6 yX6_setDebt yX6_setDebt, Cond.code yX6_setDebt cX6_setDebt 5 none, Cond.methodLink RX6 152 yX6_pays, Cond.instanceMethod yX6_pays, Cond.selects RX6 yX6_pays yX6_pays, Cond.code yX6_pays cX6_pays 4 (some .int), Cond.fieldLink RX6 52 "LadderOfBowsModel" "day" "[I"]
def wsX6_refuse_r4 : List Cond := [Cond.methodLink RX6 155 yX6_bothBow, Cond.instanceMethod yX6_bothBow, Cond.selects RX6 yX6_bothBow yX6_bothBow, Cond.code yX6_bothBow cX6_bothBow 6 none, Cond.methodLink RX6 158 yX6_dies, Cond.instanceMethod yX6_dies, Cond.selects RX6 yX6_dies yX6_dies, Cond.code yX6_dies cX6_dies 4 none, Cond.methodLink RX6 162 yX6_goDay, Cond.instanceMethod yX6_goDay, Cond.selects RX6 yX6_goDay yX6_goDay, Cond.code yX6_goDay cX6_goDay 4 none, Cond.fieldLink RX6 55 "LadderOfBowsModel" "many" "[I"]
def wsX6_refuse : List Cond := .code yX6_refuse cX6_refuse 3 (some .int) :: ((wsX6_refuse_r1 ++ (wsX6_refuse_r2 ++ (wsX6_refuse_r3 ++ wsX6_refuse_r4))) ++ wsX60)
def wsX6_atOnce_r1 : List Cond := [Cond.methodLink RX6 189 yX6_actOfTwo, Cond.instanceMethod yX6_actOfTwo, Cond.selects RX6 yX6_actOfTwo yX6_actOfTwo, Cond.initialized RX6, Cond.code yX6_actOfTwo cX6_actOfTwo 5 (some .int), Cond.methodLink RX6 180 yX6_areTwo, Cond.instanceMethod yX6_areTwo, Cond.selects RX6 yX6_areTwo yX6_areTwo, Cond.code yX6_areTwo cX6_areTwo 3 (some .boolean), Cond.methodLink RX6 120 yX6_isPerson, Cond.instanceMethod yX6_isPerson, Cond.selects RX6 yX6_isPerson yX6_isPerson, Cond.code yX6_isPerson cX6_isPerson 2 (some .boolean), Cond.fieldLink RX6 13 "LadderOfBowsModel" "persons" "[I", Cond.methodLink RX6 79 yX6_in, Cond.static yX6_in, Cond.code yX6_in cX6_in 6 (some .boolean), Cond.methodLink RX6 186 yX6_act, Cond.instanceMethod yX6_act, Cond.selects RX6 yX6_act yX6_act, Cond.code yX6_act cX6_act 4 (some .int), Cond.fieldLink RX6 28 "LadderOfBowsModel" "acts" "[I", Cond.fieldLink RX6 31 "LadderOfBowsModel" "actKind" "[I", Cond.fieldLink RX6 34 "LadderOfBowsModel" "actOne" "[I"]
def wsX6_atOnce_r2 : List Cond := [Cond.fieldLink RX6 37 "LadderOfBowsModel" "actTwo" "[I", Cond.methodLink RX6 165 yX6_canDo, Cond.instanceMethod yX6_canDo, Cond.selects RX6 yX6_canDo yX6_canDo, Cond.code yX6_canDo cX6_canDo 5 (some .boolean), Cond.methodLink RX6 135 yX6_isAlive, Cond.instanceMethod yX6_isAlive, Cond.selects RX6 yX6_isAlive yX6_isAlive, Cond.code yX6_isAlive cX6_isAlive 3 (some .boolean), Cond.fieldLink RX6 49 "LadderOfBowsModel" "alive" "[I", Cond.methodLink RX6 131 yX6_has, Cond.static yX6_has, Cond.code yX6_has cX6_has 2 (some .boolean), Cond.methodLink RX6 123 yX6_debt, Cond.instanceMethod yX6_debt, Cond.selects RX6 yX6_debt yX6_debt, Cond.code yX6_debt cX6_debt 4 (some .int), Cond.fieldLink RX6 46 "LadderOfBowsModel" "debts" "[I", Cond.methodLink RX6 145 yX6_canBow, Cond.instanceMethod yX6_canBow, Cond.selects RX6 yX6_canBow yX6_canBow, Cond.code yX6_canBow cX6_canBow 4 (some .boolean), Cond.methodLink RX6 138 yX6_takes, Cond.instanceMethod yX6_takes]
def wsX6_atOnce_r3 : List Cond := [Cond.selects RX6 yX6_takes yX6_takes, Cond.code yX6_takes cX6_takes 3 (some .boolean), Cond.fieldLink RX6 16 "LadderOfBowsModel" "kinds" "[I", Cond.methodLink RX6 127 yX6_debtsOf, Cond.instanceMethod yX6_debtsOf, Cond.selects RX6 yX6_debtsOf yX6_debtsOf, Cond.code yX6_debtsOf cX6_debtsOf 5 (some .int), Cond.methodLink RX6 149 yX6_canAtOnce, Cond.instanceMethod yX6_canAtOnce, Cond.selects RX6 yX6_canAtOnce yX6_canAtOnce, Cond.code yX6_canAtOnce cX6_canAtOnce 4 (some .boolean), Cond.methodLink RX6 169 yX6_doAct, Cond.instanceMethod yX6_doAct, Cond.selects RX6 yX6_doAct yX6_doAct, Cond.code yX6_doAct cX6_doAct 6 none, Cond.methodLink RX6 141 yX6_setDebt, Cond.instanceMethod yX6_setDebt, Cond.selects RX6 yX6_setDebt yX6_setDebt, Cond.code yX6_setDebt cX6_setDebt 5 none, Cond.methodLink RX6 152 yX6_pays, Cond.instanceMethod yX6_pays, Cond.selects RX6 yX6_pays yX6_pays, Cond.code yX6_pays cX6_pays 4 (some .int), Cond.fieldLink RX6 52 "LadderOfBowsModel" "day" "[I"]
def wsX6_atOnce_r4 : List Cond := [Cond.methodLink RX6 155 yX6_bothBow, Cond.instanceMethod yX6_bothBow, Cond.selects RX6 yX6_bothBow yX6_bothBow, Cond.code yX6_bothBow cX6_bothBow 6 none, Cond.methodLink RX6 158 yX6_dies, Cond.instanceMethod yX6_dies, Cond.selects RX6 yX6_dies yX6_dies, Cond.code yX6_dies cX6_dies 4 none, Cond.methodLink RX6 162 yX6_goDay, Cond.instanceMethod yX6_goDay, Cond.selects RX6 yX6_goDay yX6_goDay, Cond.code yX6_goDay cX6_goDay 4 none, Cond.fieldLink RX6 55 "LadderOfBowsModel" "many" "[I"]
def wsX6_atOnce : List Cond := .code yX6_atOnce cX6_atOnce 3 (some .int) :: ((wsX6_atOnce_r1 ++ (wsX6_atOnce_r2 ++ (wsX6_atOnce_r3 ++ wsX6_atOnce_r4))) ++ wsX60)
def wsX6_bits : List Cond := .code yX6_bits cX6_bits 3 (some .int) :: ([])
def wsX6_die_r1 : List Cond := [Cond.fieldLink RX6 49 "LadderOfBowsModel" "alive" "[I", Cond.methodLink RX6 120 yX6_isPerson, Cond.instanceMethod yX6_isPerson, Cond.selects RX6 yX6_isPerson yX6_isPerson, Cond.initialized RX6, Cond.code yX6_isPerson cX6_isPerson 2 (some .boolean), Cond.fieldLink RX6 13 "LadderOfBowsModel" "persons" "[I", Cond.methodLink RX6 79 yX6_in, Cond.static yX6_in, Cond.code yX6_in cX6_in 6 (some .boolean), Cond.methodLink RX6 186 yX6_act, Cond.instanceMethod yX6_act, Cond.selects RX6 yX6_act yX6_act, Cond.code yX6_act cX6_act 4 (some .int), Cond.fieldLink RX6 28 "LadderOfBowsModel" "acts" "[I", Cond.fieldLink RX6 31 "LadderOfBowsModel" "actKind" "[I", Cond.fieldLink RX6 34 "LadderOfBowsModel" "actOne" "[I", Cond.fieldLink RX6 37 "LadderOfBowsModel" "actTwo" "[I", Cond.methodLink RX6 165 yX6_canDo, Cond.instanceMethod yX6_canDo, Cond.selects RX6 yX6_canDo yX6_canDo, Cond.code yX6_canDo cX6_canDo 5 (some .boolean), Cond.methodLink RX6 135 yX6_isAlive, Cond.instanceMethod yX6_isAlive]
def wsX6_die_r2 : List Cond := [Cond.selects RX6 yX6_isAlive yX6_isAlive, Cond.code yX6_isAlive cX6_isAlive 3 (some .boolean), Cond.methodLink RX6 131 yX6_has, Cond.static yX6_has, Cond.code yX6_has cX6_has 2 (some .boolean), Cond.methodLink RX6 123 yX6_debt, Cond.instanceMethod yX6_debt, Cond.selects RX6 yX6_debt yX6_debt, Cond.code yX6_debt cX6_debt 4 (some .int), Cond.fieldLink RX6 46 "LadderOfBowsModel" "debts" "[I", Cond.methodLink RX6 145 yX6_canBow, Cond.instanceMethod yX6_canBow, Cond.selects RX6 yX6_canBow yX6_canBow, Cond.code yX6_canBow cX6_canBow 4 (some .boolean), Cond.methodLink RX6 138 yX6_takes, Cond.instanceMethod yX6_takes, Cond.selects RX6 yX6_takes yX6_takes, Cond.code yX6_takes cX6_takes 3 (some .boolean), Cond.fieldLink RX6 16 "LadderOfBowsModel" "kinds" "[I", Cond.methodLink RX6 127 yX6_debtsOf, Cond.instanceMethod yX6_debtsOf, Cond.selects RX6 yX6_debtsOf yX6_debtsOf, Cond.code yX6_debtsOf cX6_debtsOf 5 (some .int), Cond.methodLink RX6 149 yX6_canAtOnce]
def wsX6_die_r3 : List Cond := [Cond.instanceMethod yX6_canAtOnce, Cond.selects RX6 yX6_canAtOnce yX6_canAtOnce, Cond.code yX6_canAtOnce cX6_canAtOnce 4 (some .boolean), Cond.methodLink RX6 169 yX6_doAct, Cond.instanceMethod yX6_doAct, Cond.selects RX6 yX6_doAct yX6_doAct, Cond.code yX6_doAct cX6_doAct 6 none, Cond.methodLink RX6 141 yX6_setDebt, Cond.instanceMethod yX6_setDebt, Cond.selects RX6 yX6_setDebt yX6_setDebt, Cond.code yX6_setDebt cX6_setDebt 5 none, Cond.methodLink RX6 152 yX6_pays, Cond.instanceMethod yX6_pays, Cond.selects RX6 yX6_pays yX6_pays, Cond.code yX6_pays cX6_pays 4 (some .int), Cond.fieldLink RX6 52 "LadderOfBowsModel" "day" "[I", Cond.methodLink RX6 155 yX6_bothBow, Cond.instanceMethod yX6_bothBow, Cond.selects RX6 yX6_bothBow yX6_bothBow, Cond.code yX6_bothBow cX6_bothBow 6 none, Cond.methodLink RX6 158 yX6_dies, Cond.instanceMethod yX6_dies, Cond.selects RX6 yX6_dies yX6_dies, Cond.code yX6_dies cX6_dies 4 none]
def wsX6_die_r4 : List Cond := [Cond.methodLink RX6 162 yX6_goDay, Cond.instanceMethod yX6_goDay, Cond.selects RX6 yX6_goDay yX6_goDay, Cond.code yX6_goDay cX6_goDay 4 none, Cond.fieldLink RX6 55 "LadderOfBowsModel" "many" "[I", Cond.methodLink RX6 192 yX6_bits, Cond.static yX6_bits, Cond.code yX6_bits cX6_bits 3 (some .int)]
def wsX6_die : List Cond := .code yX6_die cX6_die 3 (some .int) :: ((wsX6_die_r1 ++ (wsX6_die_r2 ++ (wsX6_die_r3 ++ wsX6_die_r4))) ++ wsX60)
def wsX6_days_r1 : List Cond := [Cond.constantLong RX6 195 (9), Cond.fieldLink RX6 52 "LadderOfBowsModel" "day" "[I", Cond.methodLink RX6 79 yX6_in, Cond.static yX6_in, Cond.initialized RX6, Cond.code yX6_in cX6_in 6 (some .boolean), Cond.methodLink RX6 186 yX6_act, Cond.instanceMethod yX6_act, Cond.selects RX6 yX6_act yX6_act, Cond.code yX6_act cX6_act 4 (some .int), Cond.fieldLink RX6 28 "LadderOfBowsModel" "acts" "[I", Cond.fieldLink RX6 31 "LadderOfBowsModel" "actKind" "[I", Cond.fieldLink RX6 34 "LadderOfBowsModel" "actOne" "[I", Cond.fieldLink RX6 37 "LadderOfBowsModel" "actTwo" "[I", Cond.methodLink RX6 165 yX6_canDo, Cond.instanceMethod yX6_canDo, Cond.selects RX6 yX6_canDo yX6_canDo, Cond.code yX6_canDo cX6_canDo 5 (some .boolean), Cond.methodLink RX6 135 yX6_isAlive, Cond.instanceMethod yX6_isAlive, Cond.selects RX6 yX6_isAlive yX6_isAlive, Cond.code yX6_isAlive cX6_isAlive 3 (some .boolean), Cond.fieldLink RX6 49 "LadderOfBowsModel" "alive" "[I", Cond.methodLink RX6 131 yX6_has]
def wsX6_days_r2 : List Cond := [Cond.static yX6_has, Cond.code yX6_has cX6_has 2 (some .boolean), Cond.methodLink RX6 123 yX6_debt, Cond.instanceMethod yX6_debt, Cond.selects RX6 yX6_debt yX6_debt, Cond.code yX6_debt cX6_debt 4 (some .int), Cond.fieldLink RX6 46 "LadderOfBowsModel" "debts" "[I", Cond.methodLink RX6 145 yX6_canBow, Cond.instanceMethod yX6_canBow, Cond.selects RX6 yX6_canBow yX6_canBow, Cond.code yX6_canBow cX6_canBow 4 (some .boolean), Cond.methodLink RX6 138 yX6_takes, Cond.instanceMethod yX6_takes, Cond.selects RX6 yX6_takes yX6_takes, Cond.code yX6_takes cX6_takes 3 (some .boolean), Cond.fieldLink RX6 16 "LadderOfBowsModel" "kinds" "[I", Cond.methodLink RX6 127 yX6_debtsOf, Cond.instanceMethod yX6_debtsOf, Cond.selects RX6 yX6_debtsOf yX6_debtsOf, Cond.code yX6_debtsOf cX6_debtsOf 5 (some .int), Cond.methodLink RX6 149 yX6_canAtOnce, Cond.instanceMethod yX6_canAtOnce, Cond.selects RX6 yX6_canAtOnce yX6_canAtOnce, Cond.code yX6_canAtOnce cX6_canAtOnce 4 (some .boolean)]
def wsX6_days_r3 : List Cond := [Cond.methodLink RX6 169 yX6_doAct, Cond.instanceMethod yX6_doAct, Cond.selects RX6 yX6_doAct yX6_doAct, Cond.code yX6_doAct cX6_doAct 6 none, Cond.methodLink RX6 141 yX6_setDebt, Cond.instanceMethod yX6_setDebt, Cond.selects RX6 yX6_setDebt yX6_setDebt, Cond.code yX6_setDebt cX6_setDebt 5 none, Cond.methodLink RX6 152 yX6_pays, Cond.instanceMethod yX6_pays, Cond.selects RX6 yX6_pays yX6_pays, Cond.code yX6_pays cX6_pays 4 (some .int), Cond.methodLink RX6 155 yX6_bothBow, Cond.instanceMethod yX6_bothBow, Cond.selects RX6 yX6_bothBow yX6_bothBow, Cond.code yX6_bothBow cX6_bothBow 6 none, Cond.methodLink RX6 158 yX6_dies, Cond.instanceMethod yX6_dies, Cond.selects RX6 yX6_dies yX6_dies, Cond.code yX6_dies cX6_dies 4 none, Cond.methodLink RX6 162 yX6_goDay, Cond.instanceMethod yX6_goDay, Cond.selects RX6 yX6_goDay yX6_goDay, Cond.code yX6_goDay cX6_goDay 4 none]
def wsX6_days_r4 : List Cond := [Cond.fieldLink RX6 55 "LadderOfBowsModel" "many" "[I"]
def wsX6_days : List Cond := .code yX6_days cX6_days 3 (some .int) :: ((wsX6_days_r1 ++ (wsX6_days_r2 ++ (wsX6_days_r3 ++ wsX6_days_r4))) ++ wsX60)
def wsX6_undo_r1 : List Cond := [Cond.fieldLink RX6 28 "LadderOfBowsModel" "acts" "[I", Cond.methodLink RX6 72 yX6_begin, Cond.instanceMethod yX6_begin, Cond.selects RX6 yX6_begin yX6_begin, Cond.initialized RX6, Cond.code yX6_begin cX6_begin 1 none, Cond.methodLink RX6 172 yX6_beginBut, Cond.instanceMethod yX6_beginBut, Cond.selects RX6 yX6_beginBut yX6_beginBut, Cond.code yX6_beginBut cX6_beginBut 4 none, Cond.fieldLink RX6 46 "LadderOfBowsModel" "debts" "[I", Cond.fieldLink RX6 22 "LadderOfBowsModel" "firsts" "[I", Cond.fieldLink RX6 49 "LadderOfBowsModel" "alive" "[I", Cond.fieldLink RX6 13 "LadderOfBowsModel" "persons" "[I", Cond.fieldLink RX6 52 "LadderOfBowsModel" "day" "[I", Cond.fieldLink RX6 55 "LadderOfBowsModel" "many" "[I", Cond.fieldLink RX6 31 "LadderOfBowsModel" "actKind" "[I", Cond.fieldLink RX6 34 "LadderOfBowsModel" "actOne" "[I", Cond.fieldLink RX6 37 "LadderOfBowsModel" "actTwo" "[I", Cond.methodLink RX6 165 yX6_canDo, Cond.instanceMethod yX6_canDo, Cond.selects RX6 yX6_canDo yX6_canDo, Cond.code yX6_canDo cX6_canDo 5 (some .boolean), Cond.methodLink RX6 135 yX6_isAlive]
def wsX6_undo_r2 : List Cond := [Cond.instanceMethod yX6_isAlive, Cond.selects RX6 yX6_isAlive yX6_isAlive, Cond.code yX6_isAlive cX6_isAlive 3 (some .boolean), Cond.methodLink RX6 131 yX6_has, Cond.static yX6_has, Cond.code yX6_has cX6_has 2 (some .boolean), Cond.methodLink RX6 123 yX6_debt, Cond.instanceMethod yX6_debt, Cond.selects RX6 yX6_debt yX6_debt, Cond.code yX6_debt cX6_debt 4 (some .int), Cond.methodLink RX6 145 yX6_canBow, Cond.instanceMethod yX6_canBow, Cond.selects RX6 yX6_canBow yX6_canBow, Cond.code yX6_canBow cX6_canBow 4 (some .boolean), Cond.methodLink RX6 138 yX6_takes, Cond.instanceMethod yX6_takes, Cond.selects RX6 yX6_takes yX6_takes, Cond.code yX6_takes cX6_takes 3 (some .boolean), Cond.fieldLink RX6 16 "LadderOfBowsModel" "kinds" "[I", Cond.methodLink RX6 127 yX6_debtsOf, Cond.instanceMethod yX6_debtsOf, Cond.selects RX6 yX6_debtsOf yX6_debtsOf, Cond.code yX6_debtsOf cX6_debtsOf 5 (some .int), Cond.methodLink RX6 149 yX6_canAtOnce]
def wsX6_undo_r3 : List Cond := [Cond.instanceMethod yX6_canAtOnce, Cond.selects RX6 yX6_canAtOnce yX6_canAtOnce, Cond.code yX6_canAtOnce cX6_canAtOnce 4 (some .boolean), Cond.methodLink RX6 169 yX6_doAct, Cond.instanceMethod yX6_doAct, Cond.selects RX6 yX6_doAct yX6_doAct, Cond.code yX6_doAct cX6_doAct 6 none, Cond.methodLink RX6 141 yX6_setDebt, Cond.instanceMethod yX6_setDebt, Cond.selects RX6 yX6_setDebt yX6_setDebt, Cond.code yX6_setDebt cX6_setDebt 5 none, Cond.methodLink RX6 152 yX6_pays, Cond.instanceMethod yX6_pays, Cond.selects RX6 yX6_pays yX6_pays, Cond.code yX6_pays cX6_pays 4 (some .int), Cond.methodLink RX6 155 yX6_bothBow, Cond.instanceMethod yX6_bothBow, Cond.selects RX6 yX6_bothBow yX6_bothBow, Cond.code yX6_bothBow cX6_bothBow 6 none, Cond.methodLink RX6 158 yX6_dies, Cond.instanceMethod yX6_dies, Cond.selects RX6 yX6_dies yX6_dies, Cond.code yX6_dies cX6_dies 4 none, Cond.methodLink RX6 162 yX6_goDay]
def wsX6_undo_r4 : List Cond := [Cond.instanceMethod yX6_goDay, Cond.selects RX6 yX6_goDay yX6_goDay, Cond.code yX6_goDay cX6_goDay 4 none]
def wsX6_undo : List Cond := .code yX6_undo cX6_undo 1 (some .int) :: ((wsX6_undo_r1 ++ (wsX6_undo_r2 ++ (wsX6_undo_r3 ++ wsX6_undo_r4))) ++ wsX60)
def wsX6_firstBow_r1 : List Cond := [Cond.methodLink RX6 145 yX6_canBow, Cond.instanceMethod yX6_canBow, Cond.selects RX6 yX6_canBow yX6_canBow, Cond.initialized RX6, Cond.code yX6_canBow cX6_canBow 4 (some .boolean), Cond.methodLink RX6 123 yX6_debt, Cond.instanceMethod yX6_debt, Cond.selects RX6 yX6_debt yX6_debt, Cond.code yX6_debt cX6_debt 4 (some .int), Cond.fieldLink RX6 46 "LadderOfBowsModel" "debts" "[I", Cond.methodLink RX6 138 yX6_takes, Cond.instanceMethod yX6_takes, Cond.selects RX6 yX6_takes yX6_takes, Cond.code yX6_takes cX6_takes 3 (some .boolean), Cond.fieldLink RX6 16 "LadderOfBowsModel" "kinds" "[I", Cond.methodLink RX6 135 yX6_isAlive, Cond.instanceMethod yX6_isAlive, Cond.selects RX6 yX6_isAlive yX6_isAlive, Cond.code yX6_isAlive cX6_isAlive 3 (some .boolean), Cond.fieldLink RX6 49 "LadderOfBowsModel" "alive" "[I", Cond.methodLink RX6 131 yX6_has, Cond.static yX6_has, Cond.code yX6_has cX6_has 2 (some .boolean), Cond.methodLink RX6 127 yX6_debtsOf]
def wsX6_firstBow_r2 : List Cond := [Cond.instanceMethod yX6_debtsOf, Cond.selects RX6 yX6_debtsOf yX6_debtsOf, Cond.code yX6_debtsOf cX6_debtsOf 5 (some .int), Cond.methodLink RX6 152 yX6_pays, Cond.instanceMethod yX6_pays, Cond.selects RX6 yX6_pays yX6_pays, Cond.code yX6_pays cX6_pays 4 (some .int), Cond.fieldLink RX6 52 "LadderOfBowsModel" "day" "[I"]
def wsX6_firstBow : List Cond := .code yX6_firstBow cX6_firstBow 3 (some .int) :: ((wsX6_firstBow_r1 ++ wsX6_firstBow_r2) ++ wsX60)
def wsX6_firstAtOnce : List Cond := .code yX6_firstAtOnce cX6_firstAtOnce 5 (some .int) :: ([.methodLink RX6 149 yX6_canAtOnce, .instanceMethod yX6_canAtOnce, .selects RX6 yX6_canAtOnce yX6_canAtOnce, .initialized RX6, .code yX6_canAtOnce cX6_canAtOnce 4 (some .boolean), .methodLink RX6 123 yX6_debt, .instanceMethod yX6_debt, .selects RX6 yX6_debt yX6_debt, .code yX6_debt cX6_debt 4 (some .int), .fieldLink RX6 46 "LadderOfBowsModel" "debts" "[I", .methodLink RX6 127 yX6_debtsOf, .instanceMethod yX6_debtsOf, .selects RX6 yX6_debtsOf yX6_debtsOf, .code yX6_debtsOf cX6_debtsOf 5 (some .int), .methodLink RX6 152 yX6_pays, .instanceMethod yX6_pays, .selects RX6 yX6_pays yX6_pays, .code yX6_pays cX6_pays 4 (some .int), .fieldLink RX6 16 "LadderOfBowsModel" "kinds" "[I", .fieldLink RX6 52 "LadderOfBowsModel" "day" "[I"] ++ wsX60)
def wsX6_makePeace_r1 : List Cond := [Cond.methodLink RX6 197 yX6_firstBow, Cond.instanceMethod yX6_firstBow, Cond.selects RX6 yX6_firstBow yX6_firstBow, Cond.initialized RX6, Cond.code yX6_firstBow cX6_firstBow 3 (some .int), Cond.methodLink RX6 145 yX6_canBow, Cond.instanceMethod yX6_canBow, Cond.selects RX6 yX6_canBow yX6_canBow, Cond.code yX6_canBow cX6_canBow 4 (some .boolean), Cond.methodLink RX6 123 yX6_debt, Cond.instanceMethod yX6_debt, Cond.selects RX6 yX6_debt yX6_debt, Cond.code yX6_debt cX6_debt 4 (some .int), Cond.fieldLink RX6 46 "LadderOfBowsModel" "debts" "[I", Cond.methodLink RX6 138 yX6_takes, Cond.instanceMethod yX6_takes, Cond.selects RX6 yX6_takes yX6_takes, Cond.code yX6_takes cX6_takes 3 (some .boolean), Cond.fieldLink RX6 16 "LadderOfBowsModel" "kinds" "[I", Cond.methodLink RX6 135 yX6_isAlive, Cond.instanceMethod yX6_isAlive, Cond.selects RX6 yX6_isAlive yX6_isAlive, Cond.code yX6_isAlive cX6_isAlive 3 (some .boolean), Cond.fieldLink RX6 49 "LadderOfBowsModel" "alive" "[I"]
def wsX6_makePeace_r2 : List Cond := [Cond.methodLink RX6 131 yX6_has, Cond.static yX6_has, Cond.code yX6_has cX6_has 2 (some .boolean), Cond.methodLink RX6 127 yX6_debtsOf, Cond.instanceMethod yX6_debtsOf, Cond.selects RX6 yX6_debtsOf yX6_debtsOf, Cond.code yX6_debtsOf cX6_debtsOf 5 (some .int), Cond.methodLink RX6 152 yX6_pays, Cond.instanceMethod yX6_pays, Cond.selects RX6 yX6_pays yX6_pays, Cond.code yX6_pays cX6_pays 4 (some .int), Cond.fieldLink RX6 52 "LadderOfBowsModel" "day" "[I", Cond.methodLink RX6 200 yX6_firstAtOnce, Cond.instanceMethod yX6_firstAtOnce, Cond.selects RX6 yX6_firstAtOnce yX6_firstAtOnce, Cond.code yX6_firstAtOnce cX6_firstAtOnce 5 (some .int), Cond.methodLink RX6 149 yX6_canAtOnce, Cond.instanceMethod yX6_canAtOnce, Cond.selects RX6 yX6_canAtOnce yX6_canAtOnce, Cond.code yX6_canAtOnce cX6_canAtOnce 4 (some .boolean), Cond.methodLink RX6 169 yX6_doAct, Cond.instanceMethod yX6_doAct, Cond.selects RX6 yX6_doAct yX6_doAct, Cond.code yX6_doAct cX6_doAct 6 none]
def wsX6_makePeace_r3 : List Cond := [Cond.methodLink RX6 141 yX6_setDebt, Cond.instanceMethod yX6_setDebt, Cond.selects RX6 yX6_setDebt yX6_setDebt, Cond.code yX6_setDebt cX6_setDebt 5 none, Cond.methodLink RX6 155 yX6_bothBow, Cond.instanceMethod yX6_bothBow, Cond.selects RX6 yX6_bothBow yX6_bothBow, Cond.code yX6_bothBow cX6_bothBow 6 none, Cond.methodLink RX6 158 yX6_dies, Cond.instanceMethod yX6_dies, Cond.selects RX6 yX6_dies yX6_dies, Cond.code yX6_dies cX6_dies 4 none, Cond.methodLink RX6 162 yX6_goDay, Cond.instanceMethod yX6_goDay, Cond.selects RX6 yX6_goDay yX6_goDay, Cond.code yX6_goDay cX6_goDay 4 none, Cond.fieldLink RX6 55 "LadderOfBowsModel" "many" "[I"]
def wsX6_makePeace : List Cond := .code yX6_makePeace cX6_makePeace 6 (some .int) :: ((wsX6_makePeace_r1 ++ (wsX6_makePeace_r2 ++ wsX6_makePeace_r3)) ++ wsX60)
def wsX6_owedBehind_r1 : List Cond := [Cond.methodLink RX6 203 yX6_copy, Cond.instanceMethod yX6_copy, Cond.selects RX6 yX6_copy yX6_copy, Cond.initialized RX6, Cond.code yX6_copy cX6_copy 4 none, Cond.fieldLink RX6 46 "LadderOfBowsModel" "debts" "[I", Cond.fieldLink RX6 49 "LadderOfBowsModel" "alive" "[I", Cond.fieldLink RX6 52 "LadderOfBowsModel" "day" "[I", Cond.fieldLink RX6 55 "LadderOfBowsModel" "many" "[I", Cond.methodLink RX6 206 yX6_makePeace, Cond.instanceMethod yX6_makePeace, Cond.selects RX6 yX6_makePeace yX6_makePeace, Cond.code yX6_makePeace cX6_makePeace 6 (some .int), Cond.methodLink RX6 197 yX6_firstBow, Cond.instanceMethod yX6_firstBow, Cond.selects RX6 yX6_firstBow yX6_firstBow, Cond.code yX6_firstBow cX6_firstBow 3 (some .int), Cond.methodLink RX6 145 yX6_canBow, Cond.instanceMethod yX6_canBow, Cond.selects RX6 yX6_canBow yX6_canBow, Cond.code yX6_canBow cX6_canBow 4 (some .boolean), Cond.methodLink RX6 123 yX6_debt, Cond.instanceMethod yX6_debt, Cond.selects RX6 yX6_debt yX6_debt]
def wsX6_owedBehind_r2 : List Cond := [Cond.code yX6_debt cX6_debt 4 (some .int), Cond.methodLink RX6 138 yX6_takes, Cond.instanceMethod yX6_takes, Cond.selects RX6 yX6_takes yX6_takes, Cond.code yX6_takes cX6_takes 3 (some .boolean), Cond.fieldLink RX6 16 "LadderOfBowsModel" "kinds" "[I", Cond.methodLink RX6 135 yX6_isAlive, Cond.instanceMethod yX6_isAlive, Cond.selects RX6 yX6_isAlive yX6_isAlive, Cond.code yX6_isAlive cX6_isAlive 3 (some .boolean), Cond.methodLink RX6 131 yX6_has, Cond.static yX6_has, Cond.code yX6_has cX6_has 2 (some .boolean), Cond.methodLink RX6 127 yX6_debtsOf, Cond.instanceMethod yX6_debtsOf, Cond.selects RX6 yX6_debtsOf yX6_debtsOf, Cond.code yX6_debtsOf cX6_debtsOf 5 (some .int), Cond.methodLink RX6 152 yX6_pays, Cond.instanceMethod yX6_pays, Cond.selects RX6 yX6_pays yX6_pays, Cond.code yX6_pays cX6_pays 4 (some .int), Cond.methodLink RX6 200 yX6_firstAtOnce, Cond.instanceMethod yX6_firstAtOnce, Cond.selects RX6 yX6_firstAtOnce yX6_firstAtOnce]
def wsX6_owedBehind_r3 : List Cond := [Cond.code yX6_firstAtOnce cX6_firstAtOnce 5 (some .int), Cond.methodLink RX6 149 yX6_canAtOnce, Cond.instanceMethod yX6_canAtOnce, Cond.selects RX6 yX6_canAtOnce yX6_canAtOnce, Cond.code yX6_canAtOnce cX6_canAtOnce 4 (some .boolean), Cond.methodLink RX6 169 yX6_doAct, Cond.instanceMethod yX6_doAct, Cond.selects RX6 yX6_doAct yX6_doAct, Cond.code yX6_doAct cX6_doAct 6 none, Cond.methodLink RX6 141 yX6_setDebt, Cond.instanceMethod yX6_setDebt, Cond.selects RX6 yX6_setDebt yX6_setDebt, Cond.code yX6_setDebt cX6_setDebt 5 none, Cond.methodLink RX6 155 yX6_bothBow, Cond.instanceMethod yX6_bothBow, Cond.selects RX6 yX6_bothBow yX6_bothBow, Cond.code yX6_bothBow cX6_bothBow 6 none, Cond.methodLink RX6 158 yX6_dies, Cond.instanceMethod yX6_dies, Cond.selects RX6 yX6_dies yX6_dies, Cond.code yX6_dies cX6_dies 4 none, Cond.methodLink RX6 162 yX6_goDay, Cond.instanceMethod yX6_goDay, Cond.selects RX6 yX6_goDay yX6_goDay]
def wsX6_owedBehind_r4 : List Cond := [Cond.code yX6_goDay cX6_goDay 4 none, Cond.methodLink RX6 209 yX6_allOf, Cond.instanceMethod yX6_allOf, Cond.selects RX6 yX6_allOf yX6_allOf, Cond.code yX6_allOf cX6_allOf 4 (some .int)]
def wsX6_owedBehind : List Cond := .code yX6_owedBehind cX6_owedBehind 2 (some .int) :: ((wsX6_owedBehind_r1 ++ (wsX6_owedBehind_r2 ++ (wsX6_owedBehind_r3 ++ wsX6_owedBehind_r4))) ++ wsX60)
def wsX6_peace_r1 : List Cond := [Cond.constantLong RX6 98 (2), Cond.methodLink RX6 79 yX6_in, Cond.static yX6_in, Cond.initialized RX6, Cond.code yX6_in cX6_in 6 (some .boolean), Cond.methodLink RX6 203 yX6_copy, Cond.instanceMethod yX6_copy, Cond.selects RX6 yX6_copy yX6_copy, Cond.code yX6_copy cX6_copy 4 none, Cond.fieldLink RX6 46 "LadderOfBowsModel" "debts" "[I", Cond.fieldLink RX6 49 "LadderOfBowsModel" "alive" "[I", Cond.fieldLink RX6 52 "LadderOfBowsModel" "day" "[I", Cond.fieldLink RX6 55 "LadderOfBowsModel" "many" "[I", Cond.methodLink RX6 206 yX6_makePeace, Cond.instanceMethod yX6_makePeace, Cond.selects RX6 yX6_makePeace yX6_makePeace, Cond.code yX6_makePeace cX6_makePeace 6 (some .int), Cond.methodLink RX6 197 yX6_firstBow, Cond.instanceMethod yX6_firstBow, Cond.selects RX6 yX6_firstBow yX6_firstBow, Cond.code yX6_firstBow cX6_firstBow 3 (some .int), Cond.methodLink RX6 145 yX6_canBow, Cond.instanceMethod yX6_canBow, Cond.selects RX6 yX6_canBow yX6_canBow]
def wsX6_peace_r2 : List Cond := [Cond.code yX6_canBow cX6_canBow 4 (some .boolean), Cond.methodLink RX6 123 yX6_debt, Cond.instanceMethod yX6_debt, Cond.selects RX6 yX6_debt yX6_debt, Cond.code yX6_debt cX6_debt 4 (some .int), Cond.methodLink RX6 138 yX6_takes, Cond.instanceMethod yX6_takes, Cond.selects RX6 yX6_takes yX6_takes, Cond.code yX6_takes cX6_takes 3 (some .boolean), Cond.fieldLink RX6 16 "LadderOfBowsModel" "kinds" "[I", Cond.methodLink RX6 135 yX6_isAlive, Cond.instanceMethod yX6_isAlive, Cond.selects RX6 yX6_isAlive yX6_isAlive, Cond.code yX6_isAlive cX6_isAlive 3 (some .boolean), Cond.methodLink RX6 131 yX6_has, Cond.static yX6_has, Cond.code yX6_has cX6_has 2 (some .boolean), Cond.methodLink RX6 127 yX6_debtsOf, Cond.instanceMethod yX6_debtsOf, Cond.selects RX6 yX6_debtsOf yX6_debtsOf, Cond.code yX6_debtsOf cX6_debtsOf 5 (some .int), Cond.methodLink RX6 152 yX6_pays, Cond.instanceMethod yX6_pays, Cond.selects RX6 yX6_pays yX6_pays]
def wsX6_peace_r3 : List Cond := [Cond.code yX6_pays cX6_pays 4 (some .int), Cond.methodLink RX6 200 yX6_firstAtOnce, Cond.instanceMethod yX6_firstAtOnce, Cond.selects RX6 yX6_firstAtOnce yX6_firstAtOnce, Cond.code yX6_firstAtOnce cX6_firstAtOnce 5 (some .int), Cond.methodLink RX6 149 yX6_canAtOnce, Cond.instanceMethod yX6_canAtOnce, Cond.selects RX6 yX6_canAtOnce yX6_canAtOnce, Cond.code yX6_canAtOnce cX6_canAtOnce 4 (some .boolean), Cond.methodLink RX6 169 yX6_doAct, Cond.instanceMethod yX6_doAct, Cond.selects RX6 yX6_doAct yX6_doAct, Cond.code yX6_doAct cX6_doAct 6 none, Cond.methodLink RX6 141 yX6_setDebt, Cond.instanceMethod yX6_setDebt, Cond.selects RX6 yX6_setDebt yX6_setDebt, Cond.code yX6_setDebt cX6_setDebt 5 none, Cond.methodLink RX6 155 yX6_bothBow, Cond.instanceMethod yX6_bothBow, Cond.selects RX6 yX6_bothBow yX6_bothBow, Cond.code yX6_bothBow cX6_bothBow 6 none, Cond.methodLink RX6 158 yX6_dies, Cond.instanceMethod yX6_dies, Cond.selects RX6 yX6_dies yX6_dies]
def wsX6_peace_r4 : List Cond := [Cond.code yX6_dies cX6_dies 4 none, Cond.methodLink RX6 162 yX6_goDay, Cond.instanceMethod yX6_goDay, Cond.selects RX6 yX6_goDay yX6_goDay, Cond.code yX6_goDay cX6_goDay 4 none, Cond.methodLink RX6 177 yX6_owedTo, Cond.instanceMethod yX6_owedTo, Cond.selects RX6 yX6_owedTo yX6_owedTo, Cond.code yX6_owedTo cX6_owedTo 5 (some .int), Cond.methodLink RX6 209 yX6_allOf, Cond.instanceMethod yX6_allOf, Cond.selects RX6 yX6_allOf yX6_allOf, Cond.code yX6_allOf cX6_allOf 4 (some .int)]
def wsX6_peace : List Cond := .code yX6_peace cX6_peace 5 (some .int) :: ((wsX6_peace_r1 ++ (wsX6_peace_r2 ++ (wsX6_peace_r3 ++ wsX6_peace_r4))) ++ wsX60)
def wsX6_layFar : List Cond := .code yX6_layFar cX6_layFar 5 none :: ([.fieldLink RX6 58 "LadderOfBowsModel" "far" "[I", .fieldLink RX6 46 "LadderOfBowsModel" "debts" "[I"] ++ wsX60)
def wsX6_ring : List Cond := .code yX6_ring cX6_ring 6 (some .int) :: ([.fieldLink RX6 58 "LadderOfBowsModel" "far" "[I", .methodLink RX6 120 yX6_isPerson, .instanceMethod yX6_isPerson, .selects RX6 yX6_isPerson yX6_isPerson, .initialized RX6, .code yX6_isPerson cX6_isPerson 2 (some .boolean), .fieldLink RX6 13 "LadderOfBowsModel" "persons" "[I", .methodLink RX6 79 yX6_in, .static yX6_in, .code yX6_in cX6_in 6 (some .boolean), .methodLink RX6 212 yX6_layFar, .instanceMethod yX6_layFar, .selects RX6 yX6_layFar yX6_layFar, .code yX6_layFar cX6_layFar 5 none, .fieldLink RX6 46 "LadderOfBowsModel" "debts" "[I", .methodLink RX6 123 yX6_debt, .instanceMethod yX6_debt, .selects RX6 yX6_debt yX6_debt, .code yX6_debt cX6_debt 4 (some .int)] ++ wsX60)
def wsX6_forgiven_r1 : List Cond := [Cond.fieldLink RX6 46 "LadderOfBowsModel" "debts" "[I", Cond.methodLink RX6 79 yX6_in, Cond.static yX6_in, Cond.initialized RX6, Cond.code yX6_in cX6_in 6 (some .boolean), Cond.methodLink RX6 203 yX6_copy, Cond.instanceMethod yX6_copy, Cond.selects RX6 yX6_copy yX6_copy, Cond.code yX6_copy cX6_copy 4 none, Cond.fieldLink RX6 49 "LadderOfBowsModel" "alive" "[I", Cond.fieldLink RX6 52 "LadderOfBowsModel" "day" "[I", Cond.fieldLink RX6 55 "LadderOfBowsModel" "many" "[I", Cond.methodLink RX6 215 yX6_owedBehind, Cond.instanceMethod yX6_owedBehind, Cond.selects RX6 yX6_owedBehind yX6_owedBehind, Cond.code yX6_owedBehind cX6_owedBehind 2 (some .int), Cond.methodLink RX6 206 yX6_makePeace, Cond.instanceMethod yX6_makePeace, Cond.selects RX6 yX6_makePeace yX6_makePeace, Cond.code yX6_makePeace cX6_makePeace 6 (some .int), Cond.methodLink RX6 197 yX6_firstBow, Cond.instanceMethod yX6_firstBow, Cond.selects RX6 yX6_firstBow yX6_firstBow, Cond.code yX6_firstBow cX6_firstBow 3 (some .int)]
def wsX6_forgiven_r2 : List Cond := [Cond.methodLink RX6 145 yX6_canBow, Cond.instanceMethod yX6_canBow, Cond.selects RX6 yX6_canBow yX6_canBow, Cond.code yX6_canBow cX6_canBow 4 (some .boolean), Cond.methodLink RX6 123 yX6_debt, Cond.instanceMethod yX6_debt, Cond.selects RX6 yX6_debt yX6_debt, Cond.code yX6_debt cX6_debt 4 (some .int), Cond.methodLink RX6 138 yX6_takes, Cond.instanceMethod yX6_takes, Cond.selects RX6 yX6_takes yX6_takes, Cond.code yX6_takes cX6_takes 3 (some .boolean), Cond.fieldLink RX6 16 "LadderOfBowsModel" "kinds" "[I", Cond.methodLink RX6 135 yX6_isAlive, Cond.instanceMethod yX6_isAlive, Cond.selects RX6 yX6_isAlive yX6_isAlive, Cond.code yX6_isAlive cX6_isAlive 3 (some .boolean), Cond.methodLink RX6 131 yX6_has, Cond.static yX6_has, Cond.code yX6_has cX6_has 2 (some .boolean), Cond.methodLink RX6 127 yX6_debtsOf, Cond.instanceMethod yX6_debtsOf, Cond.selects RX6 yX6_debtsOf yX6_debtsOf, Cond.code yX6_debtsOf cX6_debtsOf 5 (some .int)]
def wsX6_forgiven_r3 : List Cond := [Cond.methodLink RX6 152 yX6_pays, Cond.instanceMethod yX6_pays, Cond.selects RX6 yX6_pays yX6_pays, Cond.code yX6_pays cX6_pays 4 (some .int), Cond.methodLink RX6 200 yX6_firstAtOnce, Cond.instanceMethod yX6_firstAtOnce, Cond.selects RX6 yX6_firstAtOnce yX6_firstAtOnce, Cond.code yX6_firstAtOnce cX6_firstAtOnce 5 (some .int), Cond.methodLink RX6 149 yX6_canAtOnce, Cond.instanceMethod yX6_canAtOnce, Cond.selects RX6 yX6_canAtOnce yX6_canAtOnce, Cond.code yX6_canAtOnce cX6_canAtOnce 4 (some .boolean), Cond.methodLink RX6 169 yX6_doAct, Cond.instanceMethod yX6_doAct, Cond.selects RX6 yX6_doAct yX6_doAct, Cond.code yX6_doAct cX6_doAct 6 none, Cond.methodLink RX6 141 yX6_setDebt, Cond.instanceMethod yX6_setDebt, Cond.selects RX6 yX6_setDebt yX6_setDebt, Cond.code yX6_setDebt cX6_setDebt 5 none, Cond.methodLink RX6 155 yX6_bothBow, Cond.instanceMethod yX6_bothBow, Cond.selects RX6 yX6_bothBow yX6_bothBow, Cond.code yX6_bothBow cX6_bothBow 6 none]
def wsX6_forgiven_r4 : List Cond := [Cond.methodLink RX6 158 yX6_dies, Cond.instanceMethod yX6_dies, Cond.selects RX6 yX6_dies yX6_dies, Cond.code yX6_dies cX6_dies 4 none, Cond.methodLink RX6 162 yX6_goDay, Cond.instanceMethod yX6_goDay, Cond.selects RX6 yX6_goDay yX6_goDay, Cond.code yX6_goDay cX6_goDay 4 none, Cond.methodLink RX6 209 yX6_allOf, Cond.instanceMethod yX6_allOf, Cond.selects RX6 yX6_allOf yX6_allOf, Cond.code yX6_allOf cX6_allOf 4 (some .int)]
def wsX6_forgiven : List Cond := .code yX6_forgiven cX6_forgiven 6 (some .int) :: ((wsX6_forgiven_r1 ++ (wsX6_forgiven_r2 ++ (wsX6_forgiven_r3 ++ wsX6_forgiven_r4))) ++ wsX60)
def wsX6_mustNot_r1 : List Cond := [Cond.fieldLink RX6 13 "LadderOfBowsModel" "persons" "[I", Cond.methodLink RX6 120 yX6_isPerson, Cond.instanceMethod yX6_isPerson, Cond.selects RX6 yX6_isPerson yX6_isPerson, Cond.initialized RX6, Cond.code yX6_isPerson cX6_isPerson 2 (some .boolean), Cond.methodLink RX6 79 yX6_in, Cond.static yX6_in, Cond.code yX6_in cX6_in 6 (some .boolean), Cond.methodLink RX6 135 yX6_isAlive, Cond.instanceMethod yX6_isAlive, Cond.selects RX6 yX6_isAlive yX6_isAlive, Cond.code yX6_isAlive cX6_isAlive 3 (some .boolean), Cond.fieldLink RX6 49 "LadderOfBowsModel" "alive" "[I", Cond.methodLink RX6 131 yX6_has, Cond.static yX6_has, Cond.code yX6_has cX6_has 2 (some .boolean), Cond.methodLink RX6 215 yX6_owedBehind, Cond.instanceMethod yX6_owedBehind, Cond.selects RX6 yX6_owedBehind yX6_owedBehind, Cond.code yX6_owedBehind cX6_owedBehind 2 (some .int), Cond.methodLink RX6 203 yX6_copy, Cond.instanceMethod yX6_copy, Cond.selects RX6 yX6_copy yX6_copy]
def wsX6_mustNot_r2 : List Cond := [Cond.code yX6_copy cX6_copy 4 none, Cond.fieldLink RX6 46 "LadderOfBowsModel" "debts" "[I", Cond.fieldLink RX6 52 "LadderOfBowsModel" "day" "[I", Cond.fieldLink RX6 55 "LadderOfBowsModel" "many" "[I", Cond.methodLink RX6 206 yX6_makePeace, Cond.instanceMethod yX6_makePeace, Cond.selects RX6 yX6_makePeace yX6_makePeace, Cond.code yX6_makePeace cX6_makePeace 6 (some .int), Cond.methodLink RX6 197 yX6_firstBow, Cond.instanceMethod yX6_firstBow, Cond.selects RX6 yX6_firstBow yX6_firstBow, Cond.code yX6_firstBow cX6_firstBow 3 (some .int), Cond.methodLink RX6 145 yX6_canBow, Cond.instanceMethod yX6_canBow, Cond.selects RX6 yX6_canBow yX6_canBow, Cond.code yX6_canBow cX6_canBow 4 (some .boolean), Cond.methodLink RX6 123 yX6_debt, Cond.instanceMethod yX6_debt, Cond.selects RX6 yX6_debt yX6_debt, Cond.code yX6_debt cX6_debt 4 (some .int), Cond.methodLink RX6 138 yX6_takes, Cond.instanceMethod yX6_takes, Cond.selects RX6 yX6_takes yX6_takes, Cond.code yX6_takes cX6_takes 3 (some .boolean)]
def wsX6_mustNot_r3 : List Cond := [Cond.fieldLink RX6 16 "LadderOfBowsModel" "kinds" "[I", Cond.methodLink RX6 127 yX6_debtsOf, Cond.instanceMethod yX6_debtsOf, Cond.selects RX6 yX6_debtsOf yX6_debtsOf, Cond.code yX6_debtsOf cX6_debtsOf 5 (some .int), Cond.methodLink RX6 152 yX6_pays, Cond.instanceMethod yX6_pays, Cond.selects RX6 yX6_pays yX6_pays, Cond.code yX6_pays cX6_pays 4 (some .int), Cond.methodLink RX6 200 yX6_firstAtOnce, Cond.instanceMethod yX6_firstAtOnce, Cond.selects RX6 yX6_firstAtOnce yX6_firstAtOnce, Cond.code yX6_firstAtOnce cX6_firstAtOnce 5 (some .int), Cond.methodLink RX6 149 yX6_canAtOnce, Cond.instanceMethod yX6_canAtOnce, Cond.selects RX6 yX6_canAtOnce yX6_canAtOnce, Cond.code yX6_canAtOnce cX6_canAtOnce 4 (some .boolean), Cond.methodLink RX6 169 yX6_doAct, Cond.instanceMethod yX6_doAct, Cond.selects RX6 yX6_doAct yX6_doAct, Cond.code yX6_doAct cX6_doAct 6 none, Cond.methodLink RX6 141 yX6_setDebt, Cond.instanceMethod yX6_setDebt, Cond.selects RX6 yX6_setDebt yX6_setDebt]
def wsX6_mustNot_r4 : List Cond := [Cond.code yX6_setDebt cX6_setDebt 5 none, Cond.methodLink RX6 155 yX6_bothBow, Cond.instanceMethod yX6_bothBow, Cond.selects RX6 yX6_bothBow yX6_bothBow, Cond.code yX6_bothBow cX6_bothBow 6 none, Cond.methodLink RX6 158 yX6_dies, Cond.instanceMethod yX6_dies, Cond.selects RX6 yX6_dies yX6_dies, Cond.code yX6_dies cX6_dies 4 none, Cond.methodLink RX6 162 yX6_goDay, Cond.instanceMethod yX6_goDay, Cond.selects RX6 yX6_goDay yX6_goDay, Cond.code yX6_goDay cX6_goDay 4 none, Cond.methodLink RX6 209 yX6_allOf, Cond.instanceMethod yX6_allOf, Cond.selects RX6 yX6_allOf yX6_allOf, Cond.code yX6_allOf cX6_allOf 4 (some .int), Cond.methodLink RX6 165 yX6_canDo, Cond.instanceMethod yX6_canDo, Cond.selects RX6 yX6_canDo yX6_canDo, Cond.code yX6_canDo cX6_canDo 5 (some .boolean)]
def wsX6_mustNot : List Cond := .code yX6_mustNot cX6_mustNot 5 (some .int) :: ((wsX6_mustNot_r1 ++ (wsX6_mustNot_r2 ++ (wsX6_mustNot_r3 ++ wsX6_mustNot_r4))) ++ wsX60)
def wsX6_began_r1 : List Cond := [Cond.fieldLink RX6 28 "LadderOfBowsModel" "acts" "[I", Cond.methodLink RX6 215 yX6_owedBehind, Cond.instanceMethod yX6_owedBehind, Cond.selects RX6 yX6_owedBehind yX6_owedBehind, Cond.initialized RX6, Cond.code yX6_owedBehind cX6_owedBehind 2 (some .int), Cond.methodLink RX6 203 yX6_copy, Cond.instanceMethod yX6_copy, Cond.selects RX6 yX6_copy yX6_copy, Cond.code yX6_copy cX6_copy 4 none, Cond.fieldLink RX6 46 "LadderOfBowsModel" "debts" "[I", Cond.fieldLink RX6 49 "LadderOfBowsModel" "alive" "[I", Cond.fieldLink RX6 52 "LadderOfBowsModel" "day" "[I", Cond.fieldLink RX6 55 "LadderOfBowsModel" "many" "[I", Cond.methodLink RX6 206 yX6_makePeace, Cond.instanceMethod yX6_makePeace, Cond.selects RX6 yX6_makePeace yX6_makePeace, Cond.code yX6_makePeace cX6_makePeace 6 (some .int), Cond.methodLink RX6 197 yX6_firstBow, Cond.instanceMethod yX6_firstBow, Cond.selects RX6 yX6_firstBow yX6_firstBow, Cond.code yX6_firstBow cX6_firstBow 3 (some .int), Cond.methodLink RX6 145 yX6_canBow, Cond.instanceMethod yX6_canBow]
def wsX6_began_r2 : List Cond := [Cond.selects RX6 yX6_canBow yX6_canBow, Cond.code yX6_canBow cX6_canBow 4 (some .boolean), Cond.methodLink RX6 123 yX6_debt, Cond.instanceMethod yX6_debt, Cond.selects RX6 yX6_debt yX6_debt, Cond.code yX6_debt cX6_debt 4 (some .int), Cond.methodLink RX6 138 yX6_takes, Cond.instanceMethod yX6_takes, Cond.selects RX6 yX6_takes yX6_takes, Cond.code yX6_takes cX6_takes 3 (some .boolean), Cond.fieldLink RX6 16 "LadderOfBowsModel" "kinds" "[I", Cond.methodLink RX6 135 yX6_isAlive, Cond.instanceMethod yX6_isAlive, Cond.selects RX6 yX6_isAlive yX6_isAlive, Cond.code yX6_isAlive cX6_isAlive 3 (some .boolean), Cond.methodLink RX6 131 yX6_has, Cond.static yX6_has, Cond.code yX6_has cX6_has 2 (some .boolean), Cond.methodLink RX6 127 yX6_debtsOf, Cond.instanceMethod yX6_debtsOf, Cond.selects RX6 yX6_debtsOf yX6_debtsOf, Cond.code yX6_debtsOf cX6_debtsOf 5 (some .int), Cond.methodLink RX6 152 yX6_pays, Cond.instanceMethod yX6_pays]
def wsX6_began_r3 : List Cond := [Cond.selects RX6 yX6_pays yX6_pays, Cond.code yX6_pays cX6_pays 4 (some .int), Cond.methodLink RX6 200 yX6_firstAtOnce, Cond.instanceMethod yX6_firstAtOnce, Cond.selects RX6 yX6_firstAtOnce yX6_firstAtOnce, Cond.code yX6_firstAtOnce cX6_firstAtOnce 5 (some .int), Cond.methodLink RX6 149 yX6_canAtOnce, Cond.instanceMethod yX6_canAtOnce, Cond.selects RX6 yX6_canAtOnce yX6_canAtOnce, Cond.code yX6_canAtOnce cX6_canAtOnce 4 (some .boolean), Cond.methodLink RX6 169 yX6_doAct, Cond.instanceMethod yX6_doAct, Cond.selects RX6 yX6_doAct yX6_doAct, Cond.code yX6_doAct cX6_doAct 6 none, Cond.methodLink RX6 141 yX6_setDebt, Cond.instanceMethod yX6_setDebt, Cond.selects RX6 yX6_setDebt yX6_setDebt, Cond.code yX6_setDebt cX6_setDebt 5 none, Cond.methodLink RX6 155 yX6_bothBow, Cond.instanceMethod yX6_bothBow, Cond.selects RX6 yX6_bothBow yX6_bothBow, Cond.code yX6_bothBow cX6_bothBow 6 none, Cond.methodLink RX6 158 yX6_dies, Cond.instanceMethod yX6_dies]
def wsX6_began_r4 : List Cond := [Cond.selects RX6 yX6_dies yX6_dies, Cond.code yX6_dies cX6_dies 4 none, Cond.methodLink RX6 162 yX6_goDay, Cond.instanceMethod yX6_goDay, Cond.selects RX6 yX6_goDay yX6_goDay, Cond.code yX6_goDay cX6_goDay 4 none, Cond.methodLink RX6 209 yX6_allOf, Cond.instanceMethod yX6_allOf, Cond.selects RX6 yX6_allOf yX6_allOf, Cond.code yX6_allOf cX6_allOf 4 (some .int), Cond.methodLink RX6 172 yX6_beginBut, Cond.instanceMethod yX6_beginBut, Cond.selects RX6 yX6_beginBut yX6_beginBut, Cond.code yX6_beginBut cX6_beginBut 4 none, Cond.fieldLink RX6 22 "LadderOfBowsModel" "firsts" "[I", Cond.fieldLink RX6 13 "LadderOfBowsModel" "persons" "[I", Cond.fieldLink RX6 31 "LadderOfBowsModel" "actKind" "[I", Cond.fieldLink RX6 34 "LadderOfBowsModel" "actOne" "[I", Cond.fieldLink RX6 37 "LadderOfBowsModel" "actTwo" "[I", Cond.methodLink RX6 165 yX6_canDo, Cond.instanceMethod yX6_canDo, Cond.selects RX6 yX6_canDo yX6_canDo, Cond.code yX6_canDo cX6_canDo 5 (some .boolean)]
def wsX6_began : List Cond := .code yX6_began cX6_began 3 (some .int) :: ((wsX6_began_r1 ++ (wsX6_began_r2 ++ (wsX6_began_r3 ++ wsX6_began_r4))) ++ wsX60)
def wsX6_word_r1 : List Cond := [Cond.methodLink RX6 120 yX6_isPerson, Cond.instanceMethod yX6_isPerson, Cond.selects RX6 yX6_isPerson yX6_isPerson, Cond.initialized RX6, Cond.code yX6_isPerson cX6_isPerson 2 (some .boolean), Cond.fieldLink RX6 13 "LadderOfBowsModel" "persons" "[I", Cond.methodLink RX6 79 yX6_in, Cond.static yX6_in, Cond.code yX6_in cX6_in 6 (some .boolean), Cond.methodLink RX6 135 yX6_isAlive, Cond.instanceMethod yX6_isAlive, Cond.selects RX6 yX6_isAlive yX6_isAlive, Cond.code yX6_isAlive cX6_isAlive 3 (some .boolean), Cond.fieldLink RX6 49 "LadderOfBowsModel" "alive" "[I", Cond.methodLink RX6 131 yX6_has, Cond.static yX6_has, Cond.code yX6_has cX6_has 2 (some .boolean), Cond.methodLink RX6 183 yX6_maySpeak, Cond.instanceMethod yX6_maySpeak, Cond.selects RX6 yX6_maySpeak yX6_maySpeak, Cond.code yX6_maySpeak cX6_maySpeak 4 (some .boolean), Cond.methodLink RX6 123 yX6_debt, Cond.instanceMethod yX6_debt, Cond.selects RX6 yX6_debt yX6_debt]
def wsX6_word_r2 : List Cond := [Cond.code yX6_debt cX6_debt 4 (some .int), Cond.fieldLink RX6 46 "LadderOfBowsModel" "debts" "[I"]
def wsX6_word : List Cond := .code yX6_word cX6_word 7 (some .int) :: ((wsX6_word_r1 ++ wsX6_word_r2) ++ wsX60)
def wsX6_mayAll : List Cond := .code yX6_mayAll cX6_mayAll 4 (some .boolean) :: ([.fieldLink RX6 49 "LadderOfBowsModel" "alive" "[I", .methodLink RX6 131 yX6_has, .static yX6_has, .initialized RX6, .code yX6_has cX6_has 2 (some .boolean), .methodLink RX6 183 yX6_maySpeak, .instanceMethod yX6_maySpeak, .selects RX6 yX6_maySpeak yX6_maySpeak, .code yX6_maySpeak cX6_maySpeak 4 (some .boolean), .methodLink RX6 135 yX6_isAlive, .instanceMethod yX6_isAlive, .selects RX6 yX6_isAlive yX6_isAlive, .code yX6_isAlive cX6_isAlive 3 (some .boolean), .methodLink RX6 123 yX6_debt, .instanceMethod yX6_debt, .selects RX6 yX6_debt yX6_debt, .code yX6_debt cX6_debt 4 (some .int), .fieldLink RX6 46 "LadderOfBowsModel" "debts" "[I"] ++ wsX60)
def wsX6_vote_r1 : List Cond := [Cond.fieldLink RX6 13 "LadderOfBowsModel" "persons" "[I", Cond.methodLink RX6 192 yX6_bits, Cond.static yX6_bits, Cond.initialized RX6, Cond.code yX6_bits cX6_bits 3 (some .int), Cond.methodLink RX6 218 yX6_mayAll, Cond.instanceMethod yX6_mayAll, Cond.selects RX6 yX6_mayAll yX6_mayAll, Cond.code yX6_mayAll cX6_mayAll 4 (some .boolean), Cond.fieldLink RX6 49 "LadderOfBowsModel" "alive" "[I", Cond.methodLink RX6 131 yX6_has, Cond.static yX6_has, Cond.code yX6_has cX6_has 2 (some .boolean), Cond.methodLink RX6 183 yX6_maySpeak, Cond.instanceMethod yX6_maySpeak, Cond.selects RX6 yX6_maySpeak yX6_maySpeak, Cond.code yX6_maySpeak cX6_maySpeak 4 (some .boolean), Cond.methodLink RX6 135 yX6_isAlive, Cond.instanceMethod yX6_isAlive, Cond.selects RX6 yX6_isAlive yX6_isAlive, Cond.code yX6_isAlive cX6_isAlive 3 (some .boolean), Cond.methodLink RX6 123 yX6_debt, Cond.instanceMethod yX6_debt, Cond.selects RX6 yX6_debt yX6_debt]
def wsX6_vote_r2 : List Cond := [Cond.code yX6_debt cX6_debt 4 (some .int), Cond.fieldLink RX6 46 "LadderOfBowsModel" "debts" "[I"]
def wsX6_vote : List Cond := .code yX6_vote cX6_vote 3 (some .int) :: ((wsX6_vote_r1 ++ wsX6_vote_r2) ++ wsX60)
def wsX6_deals : List Cond := .code yX6_deals cX6_deals 6 (some .int) :: ([.fieldLink RX6 13 "LadderOfBowsModel" "persons" "[I", .fieldLink RX6 61 "LadderOfBowsModel" "most" "[I", .methodLink RX6 131 yX6_has, .static yX6_has, .initialized RX6, .code yX6_has cX6_has 2 (some .boolean), .methodLink RX6 183 yX6_maySpeak, .instanceMethod yX6_maySpeak, .selects RX6 yX6_maySpeak yX6_maySpeak, .code yX6_maySpeak cX6_maySpeak 4 (some .boolean), .methodLink RX6 135 yX6_isAlive, .instanceMethod yX6_isAlive, .selects RX6 yX6_isAlive yX6_isAlive, .code yX6_isAlive cX6_isAlive 3 (some .boolean), .fieldLink RX6 49 "LadderOfBowsModel" "alive" "[I", .methodLink RX6 123 yX6_debt, .instanceMethod yX6_debt, .selects RX6 yX6_debt yX6_debt, .code yX6_debt cX6_debt 4 (some .int), .fieldLink RX6 46 "LadderOfBowsModel" "debts" "[I"] ++ wsX60)
def wsX6_guests_r1 : List Cond := [Cond.fieldLink RX6 13 "LadderOfBowsModel" "persons" "[I", Cond.methodLink RX6 180 yX6_areTwo, Cond.instanceMethod yX6_areTwo, Cond.selects RX6 yX6_areTwo yX6_areTwo, Cond.initialized RX6, Cond.code yX6_areTwo cX6_areTwo 3 (some .boolean), Cond.methodLink RX6 120 yX6_isPerson, Cond.instanceMethod yX6_isPerson, Cond.selects RX6 yX6_isPerson yX6_isPerson, Cond.code yX6_isPerson cX6_isPerson 2 (some .boolean), Cond.methodLink RX6 79 yX6_in, Cond.static yX6_in, Cond.code yX6_in cX6_in 6 (some .boolean), Cond.methodLink RX6 135 yX6_isAlive, Cond.instanceMethod yX6_isAlive, Cond.selects RX6 yX6_isAlive yX6_isAlive, Cond.code yX6_isAlive cX6_isAlive 3 (some .boolean), Cond.fieldLink RX6 49 "LadderOfBowsModel" "alive" "[I", Cond.methodLink RX6 131 yX6_has, Cond.static yX6_has, Cond.code yX6_has cX6_has 2 (some .boolean), Cond.methodLink RX6 183 yX6_maySpeak, Cond.instanceMethod yX6_maySpeak, Cond.selects RX6 yX6_maySpeak yX6_maySpeak]
def wsX6_guests_r2 : List Cond := [Cond.code yX6_maySpeak cX6_maySpeak 4 (some .boolean), Cond.methodLink RX6 123 yX6_debt, Cond.instanceMethod yX6_debt, Cond.selects RX6 yX6_debt yX6_debt, Cond.code yX6_debt cX6_debt 4 (some .int), Cond.fieldLink RX6 46 "LadderOfBowsModel" "debts" "[I"]
def wsX6_guests : List Cond := .code yX6_guests cX6_guests 5 (some .int) :: ((wsX6_guests_r1 ++ wsX6_guests_r2) ++ wsX60)
def wsX6_isFreeBut_r1 : List Cond := [Cond.fieldLink RX6 46 "LadderOfBowsModel" "debts" "[I", Cond.methodLink RX6 203 yX6_copy, Cond.instanceMethod yX6_copy, Cond.selects RX6 yX6_copy yX6_copy, Cond.initialized RX6, Cond.code yX6_copy cX6_copy 4 none, Cond.fieldLink RX6 49 "LadderOfBowsModel" "alive" "[I", Cond.fieldLink RX6 52 "LadderOfBowsModel" "day" "[I", Cond.fieldLink RX6 55 "LadderOfBowsModel" "many" "[I", Cond.methodLink RX6 215 yX6_owedBehind, Cond.instanceMethod yX6_owedBehind, Cond.selects RX6 yX6_owedBehind yX6_owedBehind, Cond.code yX6_owedBehind cX6_owedBehind 2 (some .int), Cond.methodLink RX6 206 yX6_makePeace, Cond.instanceMethod yX6_makePeace, Cond.selects RX6 yX6_makePeace yX6_makePeace, Cond.code yX6_makePeace cX6_makePeace 6 (some .int), Cond.methodLink RX6 197 yX6_firstBow, Cond.instanceMethod yX6_firstBow, Cond.selects RX6 yX6_firstBow yX6_firstBow, Cond.code yX6_firstBow cX6_firstBow 3 (some .int), Cond.methodLink RX6 145 yX6_canBow, Cond.instanceMethod yX6_canBow, Cond.selects RX6 yX6_canBow yX6_canBow]
def wsX6_isFreeBut_r2 : List Cond := [Cond.code yX6_canBow cX6_canBow 4 (some .boolean), Cond.methodLink RX6 123 yX6_debt, Cond.instanceMethod yX6_debt, Cond.selects RX6 yX6_debt yX6_debt, Cond.code yX6_debt cX6_debt 4 (some .int), Cond.methodLink RX6 138 yX6_takes, Cond.instanceMethod yX6_takes, Cond.selects RX6 yX6_takes yX6_takes, Cond.code yX6_takes cX6_takes 3 (some .boolean), Cond.fieldLink RX6 16 "LadderOfBowsModel" "kinds" "[I", Cond.methodLink RX6 135 yX6_isAlive, Cond.instanceMethod yX6_isAlive, Cond.selects RX6 yX6_isAlive yX6_isAlive, Cond.code yX6_isAlive cX6_isAlive 3 (some .boolean), Cond.methodLink RX6 131 yX6_has, Cond.static yX6_has, Cond.code yX6_has cX6_has 2 (some .boolean), Cond.methodLink RX6 127 yX6_debtsOf, Cond.instanceMethod yX6_debtsOf, Cond.selects RX6 yX6_debtsOf yX6_debtsOf, Cond.code yX6_debtsOf cX6_debtsOf 5 (some .int), Cond.methodLink RX6 152 yX6_pays, Cond.instanceMethod yX6_pays, Cond.selects RX6 yX6_pays yX6_pays]
def wsX6_isFreeBut_r3 : List Cond := [Cond.code yX6_pays cX6_pays 4 (some .int), Cond.methodLink RX6 200 yX6_firstAtOnce, Cond.instanceMethod yX6_firstAtOnce, Cond.selects RX6 yX6_firstAtOnce yX6_firstAtOnce, Cond.code yX6_firstAtOnce cX6_firstAtOnce 5 (some .int), Cond.methodLink RX6 149 yX6_canAtOnce, Cond.instanceMethod yX6_canAtOnce, Cond.selects RX6 yX6_canAtOnce yX6_canAtOnce, Cond.code yX6_canAtOnce cX6_canAtOnce 4 (some .boolean), Cond.methodLink RX6 169 yX6_doAct, Cond.instanceMethod yX6_doAct, Cond.selects RX6 yX6_doAct yX6_doAct, Cond.code yX6_doAct cX6_doAct 6 none, Cond.methodLink RX6 141 yX6_setDebt, Cond.instanceMethod yX6_setDebt, Cond.selects RX6 yX6_setDebt yX6_setDebt, Cond.code yX6_setDebt cX6_setDebt 5 none, Cond.methodLink RX6 155 yX6_bothBow, Cond.instanceMethod yX6_bothBow, Cond.selects RX6 yX6_bothBow yX6_bothBow, Cond.code yX6_bothBow cX6_bothBow 6 none, Cond.methodLink RX6 158 yX6_dies, Cond.instanceMethod yX6_dies, Cond.selects RX6 yX6_dies yX6_dies]
def wsX6_isFreeBut_r4 : List Cond := [Cond.code yX6_dies cX6_dies 4 none, Cond.methodLink RX6 162 yX6_goDay, Cond.instanceMethod yX6_goDay, Cond.selects RX6 yX6_goDay yX6_goDay, Cond.code yX6_goDay cX6_goDay 4 none, Cond.methodLink RX6 209 yX6_allOf, Cond.instanceMethod yX6_allOf, Cond.selects RX6 yX6_allOf yX6_allOf, Cond.code yX6_allOf cX6_allOf 4 (some .int)]
def wsX6_isFreeBut : List Cond := .code yX6_isFreeBut cX6_isFreeBut 3 (some .boolean) :: ((wsX6_isFreeBut_r1 ++ (wsX6_isFreeBut_r2 ++ (wsX6_isFreeBut_r3 ++ wsX6_isFreeBut_r4))) ++ wsX60)
def wsX6_court_r1 : List Cond := [Cond.constantLong RX6 98 (2), Cond.fieldLink RX6 46 "LadderOfBowsModel" "debts" "[I", Cond.methodLink RX6 79 yX6_in, Cond.static yX6_in, Cond.initialized RX6, Cond.code yX6_in cX6_in 6 (some .boolean), Cond.methodLink RX6 215 yX6_owedBehind, Cond.instanceMethod yX6_owedBehind, Cond.selects RX6 yX6_owedBehind yX6_owedBehind, Cond.code yX6_owedBehind cX6_owedBehind 2 (some .int), Cond.methodLink RX6 203 yX6_copy, Cond.instanceMethod yX6_copy, Cond.selects RX6 yX6_copy yX6_copy, Cond.code yX6_copy cX6_copy 4 none, Cond.fieldLink RX6 49 "LadderOfBowsModel" "alive" "[I", Cond.fieldLink RX6 52 "LadderOfBowsModel" "day" "[I", Cond.fieldLink RX6 55 "LadderOfBowsModel" "many" "[I", Cond.methodLink RX6 206 yX6_makePeace, Cond.instanceMethod yX6_makePeace, Cond.selects RX6 yX6_makePeace yX6_makePeace, Cond.code yX6_makePeace cX6_makePeace 6 (some .int), Cond.methodLink RX6 197 yX6_firstBow, Cond.instanceMethod yX6_firstBow, Cond.selects RX6 yX6_firstBow yX6_firstBow]
def wsX6_court_r2 : List Cond := [Cond.code yX6_firstBow cX6_firstBow 3 (some .int), Cond.methodLink RX6 145 yX6_canBow, Cond.instanceMethod yX6_canBow, Cond.selects RX6 yX6_canBow yX6_canBow, Cond.code yX6_canBow cX6_canBow 4 (some .boolean), Cond.methodLink RX6 123 yX6_debt, Cond.instanceMethod yX6_debt, Cond.selects RX6 yX6_debt yX6_debt, Cond.code yX6_debt cX6_debt 4 (some .int), Cond.methodLink RX6 138 yX6_takes, Cond.instanceMethod yX6_takes, Cond.selects RX6 yX6_takes yX6_takes, Cond.code yX6_takes cX6_takes 3 (some .boolean), Cond.fieldLink RX6 16 "LadderOfBowsModel" "kinds" "[I", Cond.methodLink RX6 135 yX6_isAlive, Cond.instanceMethod yX6_isAlive, Cond.selects RX6 yX6_isAlive yX6_isAlive, Cond.code yX6_isAlive cX6_isAlive 3 (some .boolean), Cond.methodLink RX6 131 yX6_has, Cond.static yX6_has, Cond.code yX6_has cX6_has 2 (some .boolean), Cond.methodLink RX6 127 yX6_debtsOf, Cond.instanceMethod yX6_debtsOf, Cond.selects RX6 yX6_debtsOf yX6_debtsOf]
def wsX6_court_r3 : List Cond := [Cond.code yX6_debtsOf cX6_debtsOf 5 (some .int), Cond.methodLink RX6 152 yX6_pays, Cond.instanceMethod yX6_pays, Cond.selects RX6 yX6_pays yX6_pays, Cond.code yX6_pays cX6_pays 4 (some .int), Cond.methodLink RX6 200 yX6_firstAtOnce, Cond.instanceMethod yX6_firstAtOnce, Cond.selects RX6 yX6_firstAtOnce yX6_firstAtOnce, Cond.code yX6_firstAtOnce cX6_firstAtOnce 5 (some .int), Cond.methodLink RX6 149 yX6_canAtOnce, Cond.instanceMethod yX6_canAtOnce, Cond.selects RX6 yX6_canAtOnce yX6_canAtOnce, Cond.code yX6_canAtOnce cX6_canAtOnce 4 (some .boolean), Cond.methodLink RX6 169 yX6_doAct, Cond.instanceMethod yX6_doAct, Cond.selects RX6 yX6_doAct yX6_doAct, Cond.code yX6_doAct cX6_doAct 6 none, Cond.methodLink RX6 141 yX6_setDebt, Cond.instanceMethod yX6_setDebt, Cond.selects RX6 yX6_setDebt yX6_setDebt, Cond.code yX6_setDebt cX6_setDebt 5 none, Cond.methodLink RX6 155 yX6_bothBow, Cond.instanceMethod yX6_bothBow, Cond.selects RX6 yX6_bothBow yX6_bothBow]
def wsX6_court_r4 : List Cond := [Cond.code yX6_bothBow cX6_bothBow 6 none, Cond.methodLink RX6 158 yX6_dies, Cond.instanceMethod yX6_dies, Cond.selects RX6 yX6_dies yX6_dies, Cond.code yX6_dies cX6_dies 4 none, Cond.methodLink RX6 162 yX6_goDay, Cond.instanceMethod yX6_goDay, Cond.selects RX6 yX6_goDay yX6_goDay, Cond.code yX6_goDay cX6_goDay 4 none, Cond.methodLink RX6 209 yX6_allOf, Cond.instanceMethod yX6_allOf, Cond.selects RX6 yX6_allOf yX6_allOf, Cond.code yX6_allOf cX6_allOf 4 (some .int), Cond.methodLink RX6 221 yX6_isFreeBut, Cond.instanceMethod yX6_isFreeBut, Cond.selects RX6 yX6_isFreeBut yX6_isFreeBut, Cond.code yX6_isFreeBut cX6_isFreeBut 3 (some .boolean)]
def wsX6_court : List Cond := .code yX6_court cX6_court 8 (some .int) :: ((wsX6_court_r1 ++ (wsX6_court_r2 ++ (wsX6_court_r3 ++ wsX6_court_r4))) ++ wsX60)
def wsX6_stranger_r1 : List Cond := [Cond.fieldLink RX6 13 "LadderOfBowsModel" "persons" "[I", Cond.fieldLink RX6 16 "LadderOfBowsModel" "kinds" "[I", Cond.fieldLink RX6 49 "LadderOfBowsModel" "alive" "[I", Cond.fieldLink RX6 55 "LadderOfBowsModel" "many" "[I", Cond.methodLink RX6 79 yX6_in, Cond.static yX6_in, Cond.initialized RX6, Cond.code yX6_in cX6_in 6 (some .boolean), Cond.methodLink RX6 203 yX6_copy, Cond.instanceMethod yX6_copy, Cond.selects RX6 yX6_copy yX6_copy, Cond.code yX6_copy cX6_copy 4 none, Cond.fieldLink RX6 46 "LadderOfBowsModel" "debts" "[I", Cond.fieldLink RX6 52 "LadderOfBowsModel" "day" "[I", Cond.methodLink RX6 206 yX6_makePeace, Cond.instanceMethod yX6_makePeace, Cond.selects RX6 yX6_makePeace yX6_makePeace, Cond.code yX6_makePeace cX6_makePeace 6 (some .int), Cond.methodLink RX6 197 yX6_firstBow, Cond.instanceMethod yX6_firstBow, Cond.selects RX6 yX6_firstBow yX6_firstBow, Cond.code yX6_firstBow cX6_firstBow 3 (some .int), Cond.methodLink RX6 145 yX6_canBow, Cond.instanceMethod yX6_canBow]
def wsX6_stranger_r2 : List Cond := [Cond.selects RX6 yX6_canBow yX6_canBow, Cond.code yX6_canBow cX6_canBow 4 (some .boolean), Cond.methodLink RX6 123 yX6_debt, Cond.instanceMethod yX6_debt, Cond.selects RX6 yX6_debt yX6_debt, Cond.code yX6_debt cX6_debt 4 (some .int), Cond.methodLink RX6 138 yX6_takes, Cond.instanceMethod yX6_takes, Cond.selects RX6 yX6_takes yX6_takes, Cond.code yX6_takes cX6_takes 3 (some .boolean), Cond.methodLink RX6 135 yX6_isAlive, Cond.instanceMethod yX6_isAlive, Cond.selects RX6 yX6_isAlive yX6_isAlive, Cond.code yX6_isAlive cX6_isAlive 3 (some .boolean), Cond.methodLink RX6 131 yX6_has, Cond.static yX6_has, Cond.code yX6_has cX6_has 2 (some .boolean), Cond.methodLink RX6 127 yX6_debtsOf, Cond.instanceMethod yX6_debtsOf, Cond.selects RX6 yX6_debtsOf yX6_debtsOf, Cond.code yX6_debtsOf cX6_debtsOf 5 (some .int), Cond.methodLink RX6 152 yX6_pays, Cond.instanceMethod yX6_pays, Cond.selects RX6 yX6_pays yX6_pays]
def wsX6_stranger_r3 : List Cond := [Cond.code yX6_pays cX6_pays 4 (some .int), Cond.methodLink RX6 200 yX6_firstAtOnce, Cond.instanceMethod yX6_firstAtOnce, Cond.selects RX6 yX6_firstAtOnce yX6_firstAtOnce, Cond.code yX6_firstAtOnce cX6_firstAtOnce 5 (some .int), Cond.methodLink RX6 149 yX6_canAtOnce, Cond.instanceMethod yX6_canAtOnce, Cond.selects RX6 yX6_canAtOnce yX6_canAtOnce, Cond.code yX6_canAtOnce cX6_canAtOnce 4 (some .boolean), Cond.methodLink RX6 169 yX6_doAct, Cond.instanceMethod yX6_doAct, Cond.selects RX6 yX6_doAct yX6_doAct, Cond.code yX6_doAct cX6_doAct 6 none, Cond.methodLink RX6 141 yX6_setDebt, Cond.instanceMethod yX6_setDebt, Cond.selects RX6 yX6_setDebt yX6_setDebt, Cond.code yX6_setDebt cX6_setDebt 5 none, Cond.methodLink RX6 155 yX6_bothBow, Cond.instanceMethod yX6_bothBow, Cond.selects RX6 yX6_bothBow yX6_bothBow, Cond.code yX6_bothBow cX6_bothBow 6 none, Cond.methodLink RX6 158 yX6_dies, Cond.instanceMethod yX6_dies, Cond.selects RX6 yX6_dies yX6_dies]
def wsX6_stranger_r4 : List Cond := [Cond.code yX6_dies cX6_dies 4 none, Cond.methodLink RX6 162 yX6_goDay, Cond.instanceMethod yX6_goDay, Cond.selects RX6 yX6_goDay yX6_goDay, Cond.code yX6_goDay cX6_goDay 4 none, Cond.methodLink RX6 209 yX6_allOf, Cond.instanceMethod yX6_allOf, Cond.selects RX6 yX6_allOf yX6_allOf, Cond.code yX6_allOf cX6_allOf 4 (some .int)]
def wsX6_stranger : List Cond := .code yX6_stranger cX6_stranger 7 (some .int) :: ((wsX6_stranger_r1 ++ (wsX6_stranger_r2 ++ (wsX6_stranger_r3 ++ wsX6_stranger_r4))) ++ wsX60)
def wsX6_easter_r1 : List Cond := [Cond.fieldLink RX6 52 "LadderOfBowsModel" "day" "[I", Cond.fieldLink RX6 25 "LadderOfBowsModel" "easters" "[I", Cond.methodLink RX6 203 yX6_copy, Cond.instanceMethod yX6_copy, Cond.selects RX6 yX6_copy yX6_copy, Cond.initialized RX6, Cond.code yX6_copy cX6_copy 4 none, Cond.fieldLink RX6 46 "LadderOfBowsModel" "debts" "[I", Cond.fieldLink RX6 49 "LadderOfBowsModel" "alive" "[I", Cond.fieldLink RX6 55 "LadderOfBowsModel" "many" "[I", Cond.methodLink RX6 206 yX6_makePeace, Cond.instanceMethod yX6_makePeace, Cond.selects RX6 yX6_makePeace yX6_makePeace, Cond.code yX6_makePeace cX6_makePeace 6 (some .int), Cond.methodLink RX6 197 yX6_firstBow, Cond.instanceMethod yX6_firstBow, Cond.selects RX6 yX6_firstBow yX6_firstBow, Cond.code yX6_firstBow cX6_firstBow 3 (some .int), Cond.methodLink RX6 145 yX6_canBow, Cond.instanceMethod yX6_canBow, Cond.selects RX6 yX6_canBow yX6_canBow, Cond.code yX6_canBow cX6_canBow 4 (some .boolean), Cond.methodLink RX6 123 yX6_debt, Cond.instanceMethod yX6_debt]
def wsX6_easter_r2 : List Cond := [Cond.selects RX6 yX6_debt yX6_debt, Cond.code yX6_debt cX6_debt 4 (some .int), Cond.methodLink RX6 138 yX6_takes, Cond.instanceMethod yX6_takes, Cond.selects RX6 yX6_takes yX6_takes, Cond.code yX6_takes cX6_takes 3 (some .boolean), Cond.fieldLink RX6 16 "LadderOfBowsModel" "kinds" "[I", Cond.methodLink RX6 135 yX6_isAlive, Cond.instanceMethod yX6_isAlive, Cond.selects RX6 yX6_isAlive yX6_isAlive, Cond.code yX6_isAlive cX6_isAlive 3 (some .boolean), Cond.methodLink RX6 131 yX6_has, Cond.static yX6_has, Cond.code yX6_has cX6_has 2 (some .boolean), Cond.methodLink RX6 127 yX6_debtsOf, Cond.instanceMethod yX6_debtsOf, Cond.selects RX6 yX6_debtsOf yX6_debtsOf, Cond.code yX6_debtsOf cX6_debtsOf 5 (some .int), Cond.methodLink RX6 152 yX6_pays, Cond.instanceMethod yX6_pays, Cond.selects RX6 yX6_pays yX6_pays, Cond.code yX6_pays cX6_pays 4 (some .int), Cond.methodLink RX6 200 yX6_firstAtOnce, Cond.instanceMethod yX6_firstAtOnce]
def wsX6_easter_r3 : List Cond := [Cond.selects RX6 yX6_firstAtOnce yX6_firstAtOnce, Cond.code yX6_firstAtOnce cX6_firstAtOnce 5 (some .int), Cond.methodLink RX6 149 yX6_canAtOnce, Cond.instanceMethod yX6_canAtOnce, Cond.selects RX6 yX6_canAtOnce yX6_canAtOnce, Cond.code yX6_canAtOnce cX6_canAtOnce 4 (some .boolean), Cond.methodLink RX6 169 yX6_doAct, Cond.instanceMethod yX6_doAct, Cond.selects RX6 yX6_doAct yX6_doAct, Cond.code yX6_doAct cX6_doAct 6 none, Cond.methodLink RX6 141 yX6_setDebt, Cond.instanceMethod yX6_setDebt, Cond.selects RX6 yX6_setDebt yX6_setDebt, Cond.code yX6_setDebt cX6_setDebt 5 none, Cond.methodLink RX6 155 yX6_bothBow, Cond.instanceMethod yX6_bothBow, Cond.selects RX6 yX6_bothBow yX6_bothBow, Cond.code yX6_bothBow cX6_bothBow 6 none, Cond.methodLink RX6 158 yX6_dies, Cond.instanceMethod yX6_dies, Cond.selects RX6 yX6_dies yX6_dies, Cond.code yX6_dies cX6_dies 4 none, Cond.methodLink RX6 162 yX6_goDay, Cond.instanceMethod yX6_goDay]
def wsX6_easter_r4 : List Cond := [Cond.selects RX6 yX6_goDay yX6_goDay, Cond.code yX6_goDay cX6_goDay 4 none, Cond.methodLink RX6 209 yX6_allOf, Cond.instanceMethod yX6_allOf, Cond.selects RX6 yX6_allOf yX6_allOf, Cond.code yX6_allOf cX6_allOf 4 (some .int)]
def wsX6_easter : List Cond := .code yX6_easter cX6_easter 1 (some .int) :: ((wsX6_easter_r1 ++ (wsX6_easter_r2 ++ (wsX6_easter_r3 ++ wsX6_easter_r4))) ++ wsX60)
def wsX6_silent : List Cond := .code yX6_silent cX6_silent 2 (some .int) :: ([.constantLong RX6 224 (3), .fieldLink RX6 117 "LadderOfBowsModel" "silents" "I", .fieldLink RX6 40 "LadderOfBowsModel" "silentIn" "[I", .methodLink RX6 79 yX6_in, .static yX6_in, .initialized RX6, .code yX6_in cX6_in 6 (some .boolean)] ++ wsX60)
def wsX6_forget : List Cond := .code yX6_forget cX6_forget 2 (some .int) :: ([.fieldLink RX6 117 "LadderOfBowsModel" "silents" "I"] ++ wsX60)
def wsX6_areSilent : List Cond := .code yX6_areSilent cX6_areSilent 6 (some .boolean) :: ([.fieldLink RX6 117 "LadderOfBowsModel" "silents" "I", .fieldLink RX6 19 "LadderOfBowsModel" "streets" "[I", .fieldLink RX6 40 "LadderOfBowsModel" "silentIn" "[I", .methodLink RX6 183 yX6_maySpeak, .instanceMethod yX6_maySpeak, .selects RX6 yX6_maySpeak yX6_maySpeak, .initialized RX6, .code yX6_maySpeak cX6_maySpeak 4 (some .boolean), .methodLink RX6 135 yX6_isAlive, .instanceMethod yX6_isAlive, .selects RX6 yX6_isAlive yX6_isAlive, .code yX6_isAlive cX6_isAlive 3 (some .boolean), .fieldLink RX6 49 "LadderOfBowsModel" "alive" "[I", .methodLink RX6 131 yX6_has, .static yX6_has, .code yX6_has cX6_has 2 (some .boolean), .methodLink RX6 123 yX6_debt, .instanceMethod yX6_debt, .selects RX6 yX6_debt yX6_debt, .code yX6_debt cX6_debt 4 (some .int), .fieldLink RX6 46 "LadderOfBowsModel" "debts" "[I"] ++ wsX60)
def wsX6_fits_r1 : List Cond := [Cond.methodLink RX6 79 yX6_in, Cond.static yX6_in, Cond.initialized RX6, Cond.code yX6_in cX6_in 6 (some .boolean), Cond.methodLink RX6 180 yX6_areTwo, Cond.instanceMethod yX6_areTwo, Cond.selects RX6 yX6_areTwo yX6_areTwo, Cond.code yX6_areTwo cX6_areTwo 3 (some .boolean), Cond.methodLink RX6 120 yX6_isPerson, Cond.instanceMethod yX6_isPerson, Cond.selects RX6 yX6_isPerson yX6_isPerson, Cond.code yX6_isPerson cX6_isPerson 2 (some .boolean), Cond.fieldLink RX6 13 "LadderOfBowsModel" "persons" "[I", Cond.methodLink RX6 165 yX6_canDo, Cond.instanceMethod yX6_canDo, Cond.selects RX6 yX6_canDo yX6_canDo, Cond.code yX6_canDo cX6_canDo 5 (some .boolean), Cond.methodLink RX6 135 yX6_isAlive, Cond.instanceMethod yX6_isAlive, Cond.selects RX6 yX6_isAlive yX6_isAlive, Cond.code yX6_isAlive cX6_isAlive 3 (some .boolean), Cond.fieldLink RX6 49 "LadderOfBowsModel" "alive" "[I", Cond.methodLink RX6 131 yX6_has, Cond.static yX6_has]
def wsX6_fits_r2 : List Cond := [Cond.code yX6_has cX6_has 2 (some .boolean), Cond.methodLink RX6 123 yX6_debt, Cond.instanceMethod yX6_debt, Cond.selects RX6 yX6_debt yX6_debt, Cond.code yX6_debt cX6_debt 4 (some .int), Cond.fieldLink RX6 46 "LadderOfBowsModel" "debts" "[I", Cond.methodLink RX6 145 yX6_canBow, Cond.instanceMethod yX6_canBow, Cond.selects RX6 yX6_canBow yX6_canBow, Cond.code yX6_canBow cX6_canBow 4 (some .boolean), Cond.methodLink RX6 138 yX6_takes, Cond.instanceMethod yX6_takes, Cond.selects RX6 yX6_takes yX6_takes, Cond.code yX6_takes cX6_takes 3 (some .boolean), Cond.fieldLink RX6 16 "LadderOfBowsModel" "kinds" "[I", Cond.methodLink RX6 127 yX6_debtsOf, Cond.instanceMethod yX6_debtsOf, Cond.selects RX6 yX6_debtsOf yX6_debtsOf, Cond.code yX6_debtsOf cX6_debtsOf 5 (some .int), Cond.methodLink RX6 149 yX6_canAtOnce, Cond.instanceMethod yX6_canAtOnce, Cond.selects RX6 yX6_canAtOnce yX6_canAtOnce, Cond.code yX6_canAtOnce cX6_canAtOnce 4 (some .boolean), Cond.methodLink RX6 203 yX6_copy]
def wsX6_fits_r3 : List Cond := [Cond.instanceMethod yX6_copy, Cond.selects RX6 yX6_copy yX6_copy, Cond.code yX6_copy cX6_copy 4 none, Cond.fieldLink RX6 52 "LadderOfBowsModel" "day" "[I", Cond.fieldLink RX6 55 "LadderOfBowsModel" "many" "[I", Cond.methodLink RX6 169 yX6_doAct, Cond.instanceMethod yX6_doAct, Cond.selects RX6 yX6_doAct yX6_doAct, Cond.code yX6_doAct cX6_doAct 6 none, Cond.methodLink RX6 141 yX6_setDebt, Cond.instanceMethod yX6_setDebt, Cond.selects RX6 yX6_setDebt yX6_setDebt, Cond.code yX6_setDebt cX6_setDebt 5 none, Cond.methodLink RX6 152 yX6_pays, Cond.instanceMethod yX6_pays, Cond.selects RX6 yX6_pays yX6_pays, Cond.code yX6_pays cX6_pays 4 (some .int), Cond.methodLink RX6 155 yX6_bothBow, Cond.instanceMethod yX6_bothBow, Cond.selects RX6 yX6_bothBow yX6_bothBow, Cond.code yX6_bothBow cX6_bothBow 6 none, Cond.methodLink RX6 158 yX6_dies, Cond.instanceMethod yX6_dies, Cond.selects RX6 yX6_dies yX6_dies]
def wsX6_fits_r4 : List Cond := [Cond.code yX6_dies cX6_dies 4 none, Cond.methodLink RX6 162 yX6_goDay, Cond.instanceMethod yX6_goDay, Cond.selects RX6 yX6_goDay yX6_goDay, Cond.code yX6_goDay cX6_goDay 4 none, Cond.methodLink RX6 226 yX6_areSilent, Cond.instanceMethod yX6_areSilent, Cond.selects RX6 yX6_areSilent yX6_areSilent, Cond.code yX6_areSilent cX6_areSilent 6 (some .boolean), Cond.fieldLink RX6 117 "LadderOfBowsModel" "silents" "I", Cond.fieldLink RX6 19 "LadderOfBowsModel" "streets" "[I", Cond.fieldLink RX6 40 "LadderOfBowsModel" "silentIn" "[I", Cond.methodLink RX6 183 yX6_maySpeak, Cond.instanceMethod yX6_maySpeak, Cond.selects RX6 yX6_maySpeak yX6_maySpeak, Cond.code yX6_maySpeak cX6_maySpeak 4 (some .boolean)]
def wsX6_fits : List Cond := .code yX6_fits cX6_fits 5 (some .int) :: ((wsX6_fits_r1 ++ (wsX6_fits_r2 ++ (wsX6_fits_r3 ++ wsX6_fits_r4))) ++ wsX60)
def wsX6_year_r1 : List Cond := [Cond.constantLong RX6 229 (9999), Cond.constantLong RX6 104 (60), Cond.constantLong RX6 231 (7919), Cond.constantLong RX6 233 (6151), Cond.constantLong RX6 235 (65521), Cond.fieldLink RX6 13 "LadderOfBowsModel" "persons" "[I", Cond.methodLink RX6 79 yX6_in, Cond.static yX6_in, Cond.initialized RX6, Cond.code yX6_in cX6_in 6 (some .boolean), Cond.methodLink RX6 203 yX6_copy, Cond.instanceMethod yX6_copy, Cond.selects RX6 yX6_copy yX6_copy, Cond.code yX6_copy cX6_copy 4 none, Cond.fieldLink RX6 46 "LadderOfBowsModel" "debts" "[I", Cond.fieldLink RX6 49 "LadderOfBowsModel" "alive" "[I", Cond.fieldLink RX6 52 "LadderOfBowsModel" "day" "[I", Cond.fieldLink RX6 55 "LadderOfBowsModel" "many" "[I", Cond.methodLink RX6 162 yX6_goDay, Cond.instanceMethod yX6_goDay, Cond.selects RX6 yX6_goDay yX6_goDay, Cond.code yX6_goDay cX6_goDay 4 none, Cond.fieldLink RX6 16 "LadderOfBowsModel" "kinds" "[I", Cond.methodLink RX6 135 yX6_isAlive]
def wsX6_year_r2 : List Cond := [Cond.instanceMethod yX6_isAlive, Cond.selects RX6 yX6_isAlive yX6_isAlive, Cond.code yX6_isAlive cX6_isAlive 3 (some .boolean), Cond.methodLink RX6 131 yX6_has, Cond.static yX6_has, Cond.code yX6_has cX6_has 2 (some .boolean), Cond.methodLink RX6 123 yX6_debt, Cond.instanceMethod yX6_debt, Cond.selects RX6 yX6_debt yX6_debt, Cond.code yX6_debt cX6_debt 4 (some .int), Cond.methodLink RX6 141 yX6_setDebt, Cond.instanceMethod yX6_setDebt, Cond.selects RX6 yX6_setDebt yX6_setDebt, Cond.code yX6_setDebt cX6_setDebt 5 none, Cond.methodLink RX6 165 yX6_canDo, Cond.instanceMethod yX6_canDo, Cond.selects RX6 yX6_canDo yX6_canDo, Cond.code yX6_canDo cX6_canDo 5 (some .boolean), Cond.methodLink RX6 145 yX6_canBow, Cond.instanceMethod yX6_canBow, Cond.selects RX6 yX6_canBow yX6_canBow, Cond.code yX6_canBow cX6_canBow 4 (some .boolean), Cond.methodLink RX6 138 yX6_takes, Cond.instanceMethod yX6_takes]
def wsX6_year_r3 : List Cond := [Cond.selects RX6 yX6_takes yX6_takes, Cond.code yX6_takes cX6_takes 3 (some .boolean), Cond.methodLink RX6 127 yX6_debtsOf, Cond.instanceMethod yX6_debtsOf, Cond.selects RX6 yX6_debtsOf yX6_debtsOf, Cond.code yX6_debtsOf cX6_debtsOf 5 (some .int), Cond.methodLink RX6 149 yX6_canAtOnce, Cond.instanceMethod yX6_canAtOnce, Cond.selects RX6 yX6_canAtOnce yX6_canAtOnce, Cond.code yX6_canAtOnce cX6_canAtOnce 4 (some .boolean), Cond.methodLink RX6 169 yX6_doAct, Cond.instanceMethod yX6_doAct, Cond.selects RX6 yX6_doAct yX6_doAct, Cond.code yX6_doAct cX6_doAct 6 none, Cond.methodLink RX6 152 yX6_pays, Cond.instanceMethod yX6_pays, Cond.selects RX6 yX6_pays yX6_pays, Cond.code yX6_pays cX6_pays 4 (some .int), Cond.methodLink RX6 155 yX6_bothBow, Cond.instanceMethod yX6_bothBow, Cond.selects RX6 yX6_bothBow yX6_bothBow, Cond.code yX6_bothBow cX6_bothBow 6 none, Cond.methodLink RX6 158 yX6_dies, Cond.instanceMethod yX6_dies]
def wsX6_year_r4 : List Cond := [Cond.selects RX6 yX6_dies yX6_dies, Cond.code yX6_dies cX6_dies 4 none, Cond.methodLink RX6 209 yX6_allOf, Cond.instanceMethod yX6_allOf, Cond.selects RX6 yX6_allOf yX6_allOf, Cond.code yX6_allOf cX6_allOf 4 (some .int)]
def wsX6_year : List Cond := .code yX6_year cX6_year 12 (some .int) :: ((wsX6_year_r1 ++ (wsX6_year_r2 ++ (wsX6_year_r3 ++ wsX6_year_r4))) ++ wsX60)
def wsX6_copyActs : List Cond := .code yX6_copyActs cX6_copyActs 4 none :: ([.fieldLink RX6 28 "LadderOfBowsModel" "acts" "[I", .fieldLink RX6 31 "LadderOfBowsModel" "actKind" "[I", .fieldLink RX6 34 "LadderOfBowsModel" "actOne" "[I", .fieldLink RX6 37 "LadderOfBowsModel" "actTwo" "[I"] ++ wsX60)
def wsX6_keep : List Cond := .code yX6_keep cX6_keep 1 (some .int) :: ([.fieldLink RX6 114 "LadderOfBowsModel" "keptMany" "I", .methodLink RX6 237 yX6_copyActs, .instanceMethod yX6_copyActs, .selects RX6 yX6_copyActs yX6_copyActs, .initialized RX6, .code yX6_copyActs cX6_copyActs 4 none, .fieldLink RX6 28 "LadderOfBowsModel" "acts" "[I", .fieldLink RX6 31 "LadderOfBowsModel" "actKind" "[I", .fieldLink RX6 34 "LadderOfBowsModel" "actOne" "[I", .fieldLink RX6 37 "LadderOfBowsModel" "actTwo" "[I"] ++ wsX60)
def wsX6_back_r1 : List Cond := [Cond.fieldLink RX6 114 "LadderOfBowsModel" "keptMany" "I", Cond.methodLink RX6 237 yX6_copyActs, Cond.instanceMethod yX6_copyActs, Cond.selects RX6 yX6_copyActs yX6_copyActs, Cond.initialized RX6, Cond.code yX6_copyActs cX6_copyActs 4 none, Cond.fieldLink RX6 28 "LadderOfBowsModel" "acts" "[I", Cond.fieldLink RX6 31 "LadderOfBowsModel" "actKind" "[I", Cond.fieldLink RX6 34 "LadderOfBowsModel" "actOne" "[I", Cond.fieldLink RX6 37 "LadderOfBowsModel" "actTwo" "[I", Cond.methodLink RX6 72 yX6_begin, Cond.instanceMethod yX6_begin, Cond.selects RX6 yX6_begin yX6_begin, Cond.code yX6_begin cX6_begin 1 none, Cond.methodLink RX6 172 yX6_beginBut, Cond.instanceMethod yX6_beginBut, Cond.selects RX6 yX6_beginBut yX6_beginBut, Cond.code yX6_beginBut cX6_beginBut 4 none, Cond.fieldLink RX6 46 "LadderOfBowsModel" "debts" "[I", Cond.fieldLink RX6 22 "LadderOfBowsModel" "firsts" "[I", Cond.fieldLink RX6 49 "LadderOfBowsModel" "alive" "[I", Cond.fieldLink RX6 13 "LadderOfBowsModel" "persons" "[I", Cond.fieldLink RX6 52 "LadderOfBowsModel" "day" "[I", Cond.fieldLink RX6 55 "LadderOfBowsModel" "many" "[I"]
def wsX6_back_r2 : List Cond := [Cond.methodLink RX6 165 yX6_canDo, Cond.instanceMethod yX6_canDo, Cond.selects RX6 yX6_canDo yX6_canDo, Cond.code yX6_canDo cX6_canDo 5 (some .boolean), Cond.methodLink RX6 135 yX6_isAlive, Cond.instanceMethod yX6_isAlive, Cond.selects RX6 yX6_isAlive yX6_isAlive, Cond.code yX6_isAlive cX6_isAlive 3 (some .boolean), Cond.methodLink RX6 131 yX6_has, Cond.static yX6_has, Cond.code yX6_has cX6_has 2 (some .boolean), Cond.methodLink RX6 123 yX6_debt, Cond.instanceMethod yX6_debt, Cond.selects RX6 yX6_debt yX6_debt, Cond.code yX6_debt cX6_debt 4 (some .int), Cond.methodLink RX6 145 yX6_canBow, Cond.instanceMethod yX6_canBow, Cond.selects RX6 yX6_canBow yX6_canBow, Cond.code yX6_canBow cX6_canBow 4 (some .boolean), Cond.methodLink RX6 138 yX6_takes, Cond.instanceMethod yX6_takes, Cond.selects RX6 yX6_takes yX6_takes, Cond.code yX6_takes cX6_takes 3 (some .boolean), Cond.fieldLink RX6 16 "LadderOfBowsModel" "kinds" "[I"]
def wsX6_back_r3 : List Cond := [Cond.methodLink RX6 127 yX6_debtsOf, Cond.instanceMethod yX6_debtsOf, Cond.selects RX6 yX6_debtsOf yX6_debtsOf, Cond.code yX6_debtsOf cX6_debtsOf 5 (some .int), Cond.methodLink RX6 149 yX6_canAtOnce, Cond.instanceMethod yX6_canAtOnce, Cond.selects RX6 yX6_canAtOnce yX6_canAtOnce, Cond.code yX6_canAtOnce cX6_canAtOnce 4 (some .boolean), Cond.methodLink RX6 169 yX6_doAct, Cond.instanceMethod yX6_doAct, Cond.selects RX6 yX6_doAct yX6_doAct, Cond.code yX6_doAct cX6_doAct 6 none, Cond.methodLink RX6 141 yX6_setDebt, Cond.instanceMethod yX6_setDebt, Cond.selects RX6 yX6_setDebt yX6_setDebt, Cond.code yX6_setDebt cX6_setDebt 5 none, Cond.methodLink RX6 152 yX6_pays, Cond.instanceMethod yX6_pays, Cond.selects RX6 yX6_pays yX6_pays, Cond.code yX6_pays cX6_pays 4 (some .int), Cond.methodLink RX6 155 yX6_bothBow, Cond.instanceMethod yX6_bothBow, Cond.selects RX6 yX6_bothBow yX6_bothBow, Cond.code yX6_bothBow cX6_bothBow 6 none]
def wsX6_back_r4 : List Cond := [Cond.methodLink RX6 158 yX6_dies, Cond.instanceMethod yX6_dies, Cond.selects RX6 yX6_dies yX6_dies, Cond.code yX6_dies cX6_dies 4 none, Cond.methodLink RX6 162 yX6_goDay, Cond.instanceMethod yX6_goDay, Cond.selects RX6 yX6_goDay yX6_goDay, Cond.code yX6_goDay cX6_goDay 4 none]
def wsX6_back : List Cond := .code yX6_back cX6_back 1 (some .int) :: ((wsX6_back_r1 ++ (wsX6_back_r2 ++ (wsX6_back_r3 ++ wsX6_back_r4))) ++ wsX60)
def wsX6_count : List Cond := .code yX6_count cX6_count 2 (some .int) :: ([.fieldLink RX6 13 "LadderOfBowsModel" "persons" "[I", .fieldLink RX6 49 "LadderOfBowsModel" "alive" "[I", .fieldLink RX6 52 "LadderOfBowsModel" "day" "[I", .fieldLink RX6 28 "LadderOfBowsModel" "acts" "[I", .fieldLink RX6 117 "LadderOfBowsModel" "silents" "I", .fieldLink RX6 114 "LadderOfBowsModel" "keptMany" "I", .fieldLink RX6 83 "LadderOfBowsModel" "length" "I", .methodLink RX6 192 yX6_bits, .static yX6_bits, .initialized RX6, .code yX6_bits cX6_bits 3 (some .int), .methodLink RX6 209 yX6_allOf, .instanceMethod yX6_allOf, .selects RX6 yX6_allOf yX6_allOf, .code yX6_allOf cX6_allOf 4 (some .int), .methodLink RX6 127 yX6_debtsOf, .instanceMethod yX6_debtsOf, .selects RX6 yX6_debtsOf yX6_debtsOf, .code yX6_debtsOf cX6_debtsOf 5 (some .int), .methodLink RX6 123 yX6_debt, .instanceMethod yX6_debt, .selects RX6 yX6_debt yX6_debt, .code yX6_debt cX6_debt 4 (some .int), .fieldLink RX6 46 "LadderOfBowsModel" "debts" "[I"] ++ wsX60)
def wsJ9_max_7cf53 : List Cond := .code yJ9_max_7cf53 cJ9_max_7cf53 2 (some .int) :: ([])
def wsJ9_min_7cf53 : List Cond := .code yJ9_min_7cf53 cJ9_min_7cf53 2 (some .int) :: ([])
def wsL_law_r1 : List Cond := [Cond.classLink RL 7 RX5, Cond.instantiable RX5 13, Cond.initialized RX5, Cond.classLink RL 10 RX6, Cond.instantiable RX6 22, Cond.initialized RX6, Cond.methodLink RL 9 yX5_init, Cond.instanceMethod yX5_init, Cond.code yX5_init cX5_init 1 none, Cond.methodLink RX5 3 objectInit, Cond.instanceMethod objectInit, Cond.code objectInit ⟨#[0xb1]⟩ 1 none, Cond.classLink RX5 9 RX1, Cond.instantiable RX1 2, Cond.initialized RX1, Cond.fieldLink RX5 12 "LadderOfBows" "text" "LLadderOfBows$Letters;", Cond.classLink RX5 16 RX3, Cond.instantiable RX3 1, Cond.initialized RX3, Cond.fieldLink RX5 19 "LadderOfBows" "reader" "LLadderOfBows$Reader;", Cond.fieldLink RX5 27 "LadderOfBows" "start" "LLadderOfBows$Town;", Cond.fieldLink RX5 31 "LadderOfBows" "now" "LLadderOfBows$Town;", Cond.classLink RX5 34 RX4, Cond.instantiable RX4 8]
def wsL_law_r2 : List Cond := [Cond.initialized RX4, Cond.fieldLink RX5 37 "LadderOfBows" "trial" "LLadderOfBows$Town;", Cond.classLink RX5 40 RX0, Cond.instantiable RX0 4, Cond.initialized RX0, Cond.fieldLink RX5 43 "LadderOfBows" "acts" "LLadderOfBows$Acts;", Cond.fieldLink RX5 47 "LadderOfBows" "keptFirst" "LLadderOfBows$Acts;", Cond.fieldLink RX5 50 "LadderOfBows" "keptSecond" "LLadderOfBows$Acts;", Cond.classLink RX5 53 RX2, Cond.instantiable RX2 3, Cond.initialized RX2, Cond.fieldLink RX5 56 "LadderOfBows" "links" "LLadderOfBows$Links;", Cond.arrayClass .int, Cond.fieldLink RX5 60 "LadderOfBows" "debtPlaces" "[I", Cond.instanceMethod yX1_init, Cond.code yX1_init cX1_init 1 none, Cond.methodLink RX1 3 objectInit, Cond.fieldLink RX1 9 "LadderOfBows$Letters" "letters" "[I", Cond.instanceMethod yX3_init, Cond.code yX3_init cX3_init 1 none, Cond.methodLink RX3 3 objectInit, Cond.fieldLink RX3 11 "LadderOfBows$Reader" "numbers" "[I", Cond.methodLink RX5 23 yX5_firstTown, Cond.static yX5_firstTown]
def wsL_law_r3 : List Cond := [Cond.code yX5_firstTown cX5_firstTown 2 (some (.object "LadderOfBows$Town")), Cond.methodLink RX5 66 yJ0_length_8abf5, Cond.instanceMethod yJ0_length_8abf5, Cond.selects RJ0 yJ0_length_8abf5 yJ0_length_8abf5, Cond.initialized RJ0, Cond.code yJ0_length_8abf5 cJ0_length_8abf5 1 (some .int), Cond.fieldLink RJ0 9 "java/lang/String" "value" "[B", Cond.methodLink RJ0 335 yJ0_coder_7d493, Cond.instanceMethod yJ0_coder_7d493, Cond.selects RJ0 yJ0_coder_7d493 yJ0_coder_7d493, Cond.code yJ0_coder_7d493 cJ0_coder_7d493 1 (some .byte), Cond.fieldLink RJ0 38 "java/lang/String" "COMPACT_STRINGS" "Z", Cond.fieldLink RJ0 15 "java/lang/String" "coder" "B", Cond.methodLink RX5 72 yJ0_charAt_5068e, Cond.instanceMethod yJ0_charAt_5068e, Cond.selects RJ0 yJ0_charAt_5068e yJ0_charAt_5068e, Cond.code yJ0_charAt_5068e cJ0_charAt_5068e 2 (some .char), Cond.methodLink RJ0 492 yJ0_isLatin1_aae02, Cond.instanceMethod yJ0_isLatin1_aae02, Cond.selects RJ0 yJ0_isLatin1_aae02 yJ0_isLatin1_aae02, Cond.code yJ0_isLatin1_aae02 cJ0_isLatin1_aae02 1 (some .boolean), Cond.methodLink RJ0 495 yJ1_charAt_3b067, Cond.static yJ1_charAt_3b067, Cond.initialized RJ1]
def wsL_law_r4 : List Cond := [Cond.code yJ1_charAt_3b067 cJ1_charAt_3b067 2 (some .char), Cond.methodLink RJ1 9 yJ0_checkIndex_df160, Cond.static yJ0_checkIndex_df160, Cond.code yJ0_checkIndex_df160 cJ0_checkIndex_df160 2 none, Cond.fieldLink RJ0 1053 "jdk/internal/util/Preconditions" "SIOOBE_FORMATTER" "Ljava/util/function/BiFunction;", Cond.methodLink RJ0 1059 yJ3_checkIndex_8e157, Cond.static yJ3_checkIndex_8e157, Cond.initialized RJ3, Cond.code yJ3_checkIndex_8e157 cJ3_checkIndex_8e157 3 (some .int), Cond.methodLink RJ0 498 yJ2_charAt_3b067, Cond.static yJ2_charAt_3b067, Cond.initialized RJ2, Cond.code yJ2_charAt_3b067 cJ2_charAt_3b067 2 (some .char), Cond.methodLink RJ2 67 yJ2_checkIndex_2214a, Cond.static yJ2_checkIndex_2214a, Cond.code yJ2_checkIndex_2214a cJ2_checkIndex_2214a 2 none, Cond.methodLink RJ2 48 yJ2_length_9d52b, Cond.static yJ2_length_9d52b, Cond.code yJ2_length_9d52b cJ2_length_9d52b 1 (some .int), Cond.methodLink RJ2 414 yJ0_checkIndex_df160, Cond.methodLink RJ2 71 yJ2_getChar_3b067, Cond.static yJ2_getChar_3b067, Cond.code yJ2_getChar_3b067 cJ2_getChar_3b067 2 (some .char), Cond.fieldLink RJ2 44 "java/lang/StringUTF16" "$assertionsDisabled" "Z"]
def wsL_law_r5 : List Cond := [Cond.fieldLink RJ2 59 "java/lang/StringUTF16" "HI_BYTE_SHIFT" "I", Cond.fieldLink RJ2 63 "java/lang/StringUTF16" "LO_BYTE_SHIFT" "I", Cond.methodLink RX5 76 yX1_add, Cond.instanceMethod yX1_add, Cond.selects RX1 yX1_add yX1_add, Cond.code yX1_add cX1_add 2 none, Cond.fieldLink RX1 15 "LadderOfBows$Letters" "length" "I", Cond.instanceMethod yX4_init, Cond.code yX4_init cX4_init 1 none, Cond.methodLink RX4 3 objectInit, Cond.fieldLink RX4 9 "LadderOfBows$Town" "kinds" "[I", Cond.fieldLink RX4 15 "LadderOfBows$Town" "streets" "[I", Cond.fieldLink RX4 18 "LadderOfBows$Town" "debts" "[I", Cond.fieldLink RX4 21 "LadderOfBows$Town" "owing" "[I", Cond.methodLink RX5 80 yX3_readTown, Cond.instanceMethod yX3_readTown, Cond.selects RX3 yX3_readTown yX3_readTown, Cond.code yX3_readTown cX3_readTown 6 (some .int), Cond.methodLink RX3 15 yX4_clear, Cond.instanceMethod yX4_clear, Cond.selects RX4 yX4_clear yX4_clear, Cond.code yX4_clear cX4_clear 1 none, Cond.fieldLink RX4 24 "LadderOfBows$Town" "persons" "I", Cond.fieldLink RX4 28 "LadderOfBows$Town" "day" "I"]
def wsL_law_r6 : List Cond := [Cond.fieldLink RX4 31 "LadderOfBows$Town" "easterDay" "I", Cond.fieldLink RX4 34 "LadderOfBows$Town" "aliveBits" "I", Cond.methodLink RX4 37 yJ7_fill_53178, Cond.static yJ7_fill_53178, Cond.initialized RJ7, Cond.code yJ7_fill_53178 cJ7_fill_53178 4 none, Cond.methodLink RX3 20 yX1_length, Cond.instanceMethod yX1_length, Cond.selects RX1 yX1_length yX1_length, Cond.code yX1_length cX1_length 1 (some .int), Cond.methodLink RX3 26 yX3_readItem, Cond.instanceMethod yX3_readItem, Cond.selects RX3 yX3_readItem yX3_readItem, Cond.code yX3_readItem cX3_readItem 6 (some .int), Cond.methodLink RX3 30 yX1_at, Cond.instanceMethod yX1_at, Cond.selects RX1 yX1_at yX1_at, Cond.code yX1_at cX1_at 2 (some .int), Cond.methodLink RX3 34 yX3_numbersBehind, Cond.static yX3_numbersBehind, Cond.code yX3_numbersBehind cX3_numbersBehind 1 (some .int), Cond.methodLink RX3 37 yX3_readNumbers, Cond.instanceMethod yX3_readNumbers, Cond.selects RX3 yX3_readNumbers yX3_readNumbers]
def wsL_law_r7 : List Cond := [Cond.code yX3_readNumbers cX3_readNumbers 10 (some .int), Cond.methodLink RX3 51 yX1_figureAt, Cond.instanceMethod yX1_figureAt, Cond.selects RX1 yX1_figureAt yX1_figureAt, Cond.code yX1_figureAt cX1_figureAt 3 (some .int), Cond.methodLink RX1 19 yX1_at, Cond.methodLink RX3 41 yX3_takePerson, Cond.instanceMethod yX3_takePerson, Cond.selects RX3 yX3_takePerson yX3_takePerson, Cond.code yX3_takePerson cX3_takePerson 3 (some .boolean), Cond.methodLink RX3 54 yX4_persons, Cond.instanceMethod yX4_persons, Cond.selects RX4 yX4_persons yX4_persons, Cond.code yX4_persons cX4_persons 1 (some .int), Cond.methodLink RX3 57 yX4_addPerson, Cond.instanceMethod yX4_addPerson, Cond.selects RX4 yX4_addPerson yX4_addPerson, Cond.code yX4_addPerson cX4_addPerson 3 none, Cond.methodLink RX3 45 yX3_takeDebt, Cond.instanceMethod yX3_takeDebt, Cond.selects RX3 yX3_takeDebt yX3_takeDebt, Cond.code yX3_takeDebt cX3_takeDebt 5 (some .boolean), Cond.methodLink RX3 61 yX4_setDebt, Cond.instanceMethod yX4_setDebt]
def wsL_law_r8 : List Cond := [Cond.selects RX4 yX4_setDebt yX4_setDebt, Cond.code yX4_setDebt cX4_setDebt 5 none, Cond.methodLink RX3 48 yX3_takeEaster, Cond.instanceMethod yX3_takeEaster, Cond.selects RX3 yX3_takeEaster yX3_takeEaster, Cond.code yX3_takeEaster cX3_takeEaster 3 (some .boolean), Cond.methodLink RX3 65 yX4_setEasterDay, Cond.instanceMethod yX4_setEasterDay, Cond.selects RX4 yX4_setEasterDay yX4_setEasterDay, Cond.code yX4_setEasterDay cX4_setEasterDay 2 none, Cond.instanceMethod yX0_init, Cond.code yX0_init cX0_init 1 none, Cond.methodLink RX0 3 objectInit, Cond.fieldLink RX0 9 "LadderOfBows$Acts" "kinds" "[I", Cond.fieldLink RX0 15 "LadderOfBows$Acts" "firsts" "[I", Cond.fieldLink RX0 18 "LadderOfBows$Acts" "seconds" "[I", Cond.instanceMethod yX2_init, Cond.code yX2_init cX2_init 1 none, Cond.methodLink RX2 3 objectInit, Cond.fieldLink RX2 9 "LadderOfBows$Links" "rows" "[I", Cond.fieldLink RX2 15 "LadderOfBows$Links" "twosWithin" "[I", Cond.methodLink RL 12 yX6_init, Cond.instanceMethod yX6_init, Cond.code yX6_init cX6_init 1 none]
def wsL_law_r9 : List Cond := [Cond.methodLink RX6 1 objectInit, Cond.fieldLink RX6 7 "LadderOfBowsModel" "text" "[I", Cond.fieldLink RX6 13 "LadderOfBowsModel" "persons" "[I", Cond.fieldLink RX6 16 "LadderOfBowsModel" "kinds" "[I", Cond.fieldLink RX6 19 "LadderOfBowsModel" "streets" "[I", Cond.fieldLink RX6 22 "LadderOfBowsModel" "firsts" "[I", Cond.fieldLink RX6 25 "LadderOfBowsModel" "easters" "[I", Cond.fieldLink RX6 28 "LadderOfBowsModel" "acts" "[I", Cond.fieldLink RX6 31 "LadderOfBowsModel" "actKind" "[I", Cond.fieldLink RX6 34 "LadderOfBowsModel" "actOne" "[I", Cond.fieldLink RX6 37 "LadderOfBowsModel" "actTwo" "[I", Cond.fieldLink RX6 40 "LadderOfBowsModel" "silentIn" "[I", Cond.fieldLink RX6 43 "LadderOfBowsModel" "told" "[I", Cond.fieldLink RX6 46 "LadderOfBowsModel" "debts" "[I", Cond.fieldLink RX6 49 "LadderOfBowsModel" "alive" "[I", Cond.fieldLink RX6 52 "LadderOfBowsModel" "day" "[I", Cond.fieldLink RX6 55 "LadderOfBowsModel" "many" "[I", Cond.fieldLink RX6 58 "LadderOfBowsModel" "far" "[I", Cond.fieldLink RX6 61 "LadderOfBowsModel" "most" "[I", Cond.methodLink RX6 64 yX6_noTown, Cond.instanceMethod yX6_noTown, Cond.selects RX6 yX6_noTown yX6_noTown, Cond.code yX6_noTown cX6_noTown 3 none, Cond.methodLink RX6 68 yX6_addPerson]
def wsL_law_r10 : List Cond := [Cond.instanceMethod yX6_addPerson, Cond.selects RX6 yX6_addPerson yX6_addPerson, Cond.code yX6_addPerson cX6_addPerson 4 none, Cond.methodLink RX6 72 yX6_begin, Cond.instanceMethod yX6_begin, Cond.selects RX6 yX6_begin yX6_begin, Cond.code yX6_begin cX6_begin 1 none, Cond.methodLink RX6 172 yX6_beginBut, Cond.instanceMethod yX6_beginBut, Cond.selects RX6 yX6_beginBut yX6_beginBut, Cond.code yX6_beginBut cX6_beginBut 4 none, Cond.methodLink RX6 165 yX6_canDo, Cond.instanceMethod yX6_canDo, Cond.selects RX6 yX6_canDo yX6_canDo, Cond.code yX6_canDo cX6_canDo 5 (some .boolean), Cond.methodLink RX6 135 yX6_isAlive, Cond.instanceMethod yX6_isAlive, Cond.selects RX6 yX6_isAlive yX6_isAlive, Cond.code yX6_isAlive cX6_isAlive 3 (some .boolean), Cond.methodLink RX6 131 yX6_has, Cond.static yX6_has, Cond.code yX6_has cX6_has 2 (some .boolean), Cond.methodLink RX6 123 yX6_debt, Cond.instanceMethod yX6_debt]
def wsL_law_r11 : List Cond := [Cond.selects RX6 yX6_debt yX6_debt, Cond.code yX6_debt cX6_debt 4 (some .int), Cond.methodLink RX6 145 yX6_canBow, Cond.instanceMethod yX6_canBow, Cond.selects RX6 yX6_canBow yX6_canBow, Cond.code yX6_canBow cX6_canBow 4 (some .boolean), Cond.methodLink RX6 138 yX6_takes, Cond.instanceMethod yX6_takes, Cond.selects RX6 yX6_takes yX6_takes, Cond.code yX6_takes cX6_takes 3 (some .boolean), Cond.methodLink RX6 127 yX6_debtsOf, Cond.instanceMethod yX6_debtsOf, Cond.selects RX6 yX6_debtsOf yX6_debtsOf, Cond.code yX6_debtsOf cX6_debtsOf 5 (some .int), Cond.methodLink RX6 149 yX6_canAtOnce, Cond.instanceMethod yX6_canAtOnce, Cond.selects RX6 yX6_canAtOnce yX6_canAtOnce, Cond.code yX6_canAtOnce cX6_canAtOnce 4 (some .boolean), Cond.methodLink RX6 169 yX6_doAct, Cond.instanceMethod yX6_doAct, Cond.selects RX6 yX6_doAct yX6_doAct, Cond.code yX6_doAct cX6_doAct 6 none, Cond.methodLink RX6 141 yX6_setDebt, Cond.instanceMethod yX6_setDebt]
def wsL_law_r12 : List Cond := [Cond.selects RX6 yX6_setDebt yX6_setDebt, Cond.code yX6_setDebt cX6_setDebt 5 none, Cond.methodLink RX6 152 yX6_pays, Cond.instanceMethod yX6_pays, Cond.selects RX6 yX6_pays yX6_pays, Cond.code yX6_pays cX6_pays 4 (some .int), Cond.methodLink RX6 155 yX6_bothBow, Cond.instanceMethod yX6_bothBow, Cond.selects RX6 yX6_bothBow yX6_bothBow, Cond.code yX6_bothBow cX6_bothBow 6 none, Cond.methodLink RX6 158 yX6_dies, Cond.instanceMethod yX6_dies, Cond.selects RX6 yX6_dies yX6_dies, Cond.code yX6_dies cX6_dies 4 none, Cond.methodLink RX6 162 yX6_goDay, Cond.instanceMethod yX6_goDay, Cond.selects RX6 yX6_goDay yX6_goDay, Cond.code yX6_goDay cX6_goDay 4 none, Cond.methodLink RL 13 yX5_write, Cond.instanceMethod yX5_write, Cond.selects RX5 yX5_write yX5_write, Cond.code yX5_write cX5_write 2 (some .int), Cond.methodLink RX5 84 yX1_length, Cond.methodLink RL 17 yX6_write]
def wsL_law_r13 : List Cond := [Cond.instanceMethod yX6_write, Cond.selects RX6 yX6_write yX6_write, Cond.code yX6_write cX6_write 2 (some .int), Cond.constantLong RX6 75 (32), Cond.constantLong RX6 77 (126), Cond.fieldLink RX6 83 "LadderOfBowsModel" "length" "I", Cond.methodLink RX6 79 yX6_in, Cond.static yX6_in, Cond.code yX6_in cX6_in 6 (some .boolean), Cond.methodLink RL 18 yX5_wipe, Cond.instanceMethod yX5_wipe, Cond.selects RX5 yX5_wipe yX5_wipe, Cond.code yX5_wipe cX5_wipe 2 (some .int), Cond.methodLink RX5 85 yX1_clear, Cond.instanceMethod yX1_clear, Cond.selects RX1 yX1_clear yX1_clear, Cond.code yX1_clear cX1_clear 1 none, Cond.methodLink RL 22 yX6_wipe, Cond.instanceMethod yX6_wipe, Cond.selects RX6 yX6_wipe yX6_wipe, Cond.code yX6_wipe cX6_wipe 2 (some .int), Cond.methodLink RL 23 yX5_fault, Cond.instanceMethod yX5_fault, Cond.selects RX5 yX5_fault yX5_fault]
def wsL_law_r14 : List Cond := [Cond.code yX5_fault cX5_fault 1 (some .int), Cond.methodLink RL 26 yX6_fault, Cond.instanceMethod yX6_fault, Cond.selects RX6 yX6_fault yX6_fault, Cond.code yX6_fault cX6_fault 1 (some .int), Cond.methodLink RX6 110 yX6_readAll, Cond.instanceMethod yX6_readAll, Cond.selects RX6 yX6_readAll yX6_readAll, Cond.code yX6_readAll cX6_readAll 2 (some .int), Cond.fieldLink RX6 87 "LadderOfBowsModel" "spot" "I", Cond.methodLink RX6 106 yX6_item, Cond.instanceMethod yX6_item, Cond.selects RX6 yX6_item yX6_item, Cond.code yX6_item cX6_item 2 (some .boolean), Cond.constantLong RX6 104 (60), Cond.methodLink RX6 90 yX6_letterAt, Cond.instanceMethod yX6_letterAt, Cond.selects RX6 yX6_letterAt yX6_letterAt, Cond.code yX6_letterAt cX6_letterAt 2 (some .int), Cond.methodLink RX6 100 yX6_figures, Cond.instanceMethod yX6_figures, Cond.selects RX6 yX6_figures yX6_figures, Cond.code yX6_figures cX6_figures 5 (some .boolean), Cond.constantLong RX6 94 (48)]
def wsL_law_r15 : List Cond := [Cond.constantLong RX6 96 (57), Cond.constantLong RX6 98 (2), Cond.methodLink RL 27 yX5_lay, Cond.instanceMethod yX5_lay, Cond.selects RX5 yX5_lay yX5_lay, Cond.code yX5_lay cX5_lay 1 (some .int), Cond.fieldLink RX5 99 "LadderOfBows" "keptTowns" "I", Cond.methodLink RX5 88 yX4_persons, Cond.methodLink RX5 91 yX4_copyFrom, Cond.instanceMethod yX4_copyFrom, Cond.selects RX4 yX4_copyFrom yX4_copyFrom, Cond.code yX4_copyFrom cX4_copyFrom 2 none, Cond.methodLink RX4 43 arraycopyName, Cond.native arraycopyName, Cond.static arraycopyName, Cond.initialized "java/lang/System", Cond.methodLink RX5 95 yX0_clear, Cond.instanceMethod yX0_clear, Cond.selects RX0 yX0_clear yX0_clear, Cond.code yX0_clear cX0_clear 1 none, Cond.fieldLink RX0 21 "LadderOfBows$Acts" "size" "I", Cond.methodLink RX5 96 yX5_forgetSilence, Cond.instanceMethod yX5_forgetSilence, Cond.selects RX5 yX5_forgetSilence yX5_forgetSilence]
def wsL_law_r16 : List Cond := [Cond.code yX5_forgetSilence cX5_forgetSilence 1 none, Cond.fieldLink RX5 234 "LadderOfBows" "silences" "I", Cond.fieldLink RX5 237 "LadderOfBows" "silentStreets" "I", Cond.methodLink RL 30 yX6_lay, Cond.instanceMethod yX6_lay, Cond.selects RX6 yX6_lay yX6_lay, Cond.code yX6_lay cX6_lay 2 (some .int), Cond.fieldLink RX6 114 "LadderOfBowsModel" "keptMany" "I", Cond.fieldLink RX6 117 "LadderOfBowsModel" "silents" "I", Cond.methodLink RL 31 yX5_person, Cond.instanceMethod yX5_person, Cond.selects RX5 yX5_person yX5_person, Cond.code yX5_person cX5_person 3 (some .int), Cond.methodLink RX5 103 yX5_isPerson, Cond.instanceMethod yX5_isPerson, Cond.selects RX5 yX5_isPerson yX5_isPerson, Cond.code yX5_isPerson cX5_isPerson 2 (some .boolean), Cond.methodLink RX5 107 yX4_kindOf, Cond.instanceMethod yX4_kindOf, Cond.selects RX4 yX4_kindOf yX4_kindOf, Cond.code yX4_kindOf cX4_kindOf 2 (some .int), Cond.methodLink RX5 111 yX4_streetOf, Cond.instanceMethod yX4_streetOf, Cond.selects RX4 yX4_streetOf yX4_streetOf]
def wsL_law_r17 : List Cond := [Cond.code yX4_streetOf cX4_streetOf 2 (some .int), Cond.methodLink RX5 114 yX4_isAlive, Cond.instanceMethod yX4_isAlive, Cond.selects RX4 yX4_isAlive yX4_isAlive, Cond.code yX4_isAlive cX4_isAlive 2 (some .boolean), Cond.methodLink RX5 117 yX5_asNumber, Cond.static yX5_asNumber, Cond.code yX5_asNumber cX5_asNumber 1 (some .int), Cond.methodLink RX5 121 yX4_owing, Cond.instanceMethod yX4_owing, Cond.selects RX4 yX4_owing yX4_owing, Cond.code yX4_owing cX4_owing 2 (some .int), Cond.methodLink RX5 124 yX4_owedTo, Cond.instanceMethod yX4_owedTo, Cond.selects RX4 yX4_owedTo yX4_owedTo, Cond.code yX4_owedTo cX4_owedTo 4 (some .int), Cond.methodLink RX4 61 yX4_debt, Cond.instanceMethod yX4_debt, Cond.selects RX4 yX4_debt yX4_debt, Cond.code yX4_debt cX4_debt 3 (some .int), Cond.methodLink RX5 127 yX4_takesApology, Cond.instanceMethod yX4_takesApology, Cond.selects RX4 yX4_takesApology yX4_takesApology, Cond.code yX4_takesApology cX4_takesApology 2 (some .boolean)]
def wsL_law_r18 : List Cond := [Cond.methodLink RL 35 yX6_person, Cond.instanceMethod yX6_person, Cond.selects RX6 yX6_person yX6_person, Cond.code yX6_person cX6_person 3 (some .int), Cond.constantLong RX6 175 (5), Cond.methodLink RX6 120 yX6_isPerson, Cond.instanceMethod yX6_isPerson, Cond.selects RX6 yX6_isPerson yX6_isPerson, Cond.code yX6_isPerson cX6_isPerson 2 (some .boolean), Cond.methodLink RX6 177 yX6_owedTo, Cond.instanceMethod yX6_owedTo, Cond.selects RX6 yX6_owedTo yX6_owedTo, Cond.code yX6_owedTo cX6_owedTo 5 (some .int), Cond.methodLink RL 36 yX5_owes, Cond.instanceMethod yX5_owes, Cond.selects RX5 yX5_owes yX5_owes, Cond.code yX5_owes cX5_owes 3 (some .int), Cond.methodLink RX5 130 yX5_areTwo, Cond.instanceMethod yX5_areTwo, Cond.selects RX5 yX5_areTwo yX5_areTwo, Cond.code yX5_areTwo cX5_areTwo 3 (some .boolean), Cond.methodLink RX5 134 yX4_debt, Cond.methodLink RL 39 yX6_owes, Cond.instanceMethod yX6_owes]
def wsL_law_r19 : List Cond := [Cond.selects RX6 yX6_owes yX6_owes, Cond.code yX6_owes cX6_owes 3 (some .int), Cond.methodLink RX6 180 yX6_areTwo, Cond.instanceMethod yX6_areTwo, Cond.selects RX6 yX6_areTwo yX6_areTwo, Cond.code yX6_areTwo cX6_areTwo 3 (some .boolean), Cond.methodLink RL 40 yX5_speak, Cond.instanceMethod yX5_speak, Cond.selects RX5 yX5_speak yX5_speak, Cond.code yX5_speak cX5_speak 3 (some .int), Cond.methodLink RX5 138 yX4_maySpeak, Cond.instanceMethod yX4_maySpeak, Cond.selects RX4 yX4_maySpeak yX4_maySpeak, Cond.code yX4_maySpeak cX4_maySpeak 3 (some .boolean), Cond.methodLink RX4 53 yX4_isAlive, Cond.methodLink RL 43 yX6_speak, Cond.instanceMethod yX6_speak, Cond.selects RX6 yX6_speak yX6_speak, Cond.code yX6_speak cX6_speak 3 (some .int), Cond.methodLink RX6 183 yX6_maySpeak, Cond.instanceMethod yX6_maySpeak, Cond.selects RX6 yX6_maySpeak yX6_maySpeak, Cond.code yX6_maySpeak cX6_maySpeak 4 (some .boolean), Cond.methodLink RL 44 yX5_wrong]
def wsL_law_r20 : List Cond := [Cond.instanceMethod yX5_wrong, Cond.selects RX5 yX5_wrong yX5_wrong, Cond.code yX5_wrong cX5_wrong 3 (some .int), Cond.methodLink RX5 141 yX5_actOfTwo, Cond.instanceMethod yX5_actOfTwo, Cond.selects RX5 yX5_actOfTwo yX5_actOfTwo, Cond.code yX5_actOfTwo cX5_actOfTwo 5 (some .int), Cond.methodLink RX5 145 yX5_act, Cond.instanceMethod yX5_act, Cond.selects RX5 yX5_act yX5_act, Cond.code yX5_act cX5_act 4 (some .int), Cond.methodLink RX5 197 yX4_canBeDone, Cond.instanceMethod yX4_canBeDone, Cond.selects RX4 yX4_canBeDone yX4_canBeDone, Cond.code yX4_canBeDone cX4_canBeDone 4 (some .boolean), Cond.methodLink RX4 82 yX4_canBow, Cond.instanceMethod yX4_canBow, Cond.selects RX4 yX4_canBow yX4_canBow, Cond.code yX4_canBow cX4_canBow 3 (some .boolean), Cond.methodLink RX4 100 yX4_takesApology, Cond.methodLink RX4 85 yX4_canBowAtOnce, Cond.instanceMethod yX4_canBowAtOnce, Cond.selects RX4 yX4_canBowAtOnce yX4_canBowAtOnce, Cond.code yX4_canBowAtOnce cX4_canBowAtOnce 3 (some .boolean)]
def wsL_law_r21 : List Cond := [Cond.methodLink RX5 159 yX0_size, Cond.instanceMethod yX0_size, Cond.selects RX0 yX0_size yX0_size, Cond.code yX0_size cX0_size 1 (some .int), Cond.methodLink RX5 256 yX0_add, Cond.instanceMethod yX0_add, Cond.selects RX0 yX0_add yX0_add, Cond.code yX0_add cX0_add 4 none, Cond.methodLink RX5 259 yX4_perform, Cond.instanceMethod yX4_perform, Cond.selects RX4 yX4_perform yX4_perform, Cond.code yX4_perform cX4_perform 4 none, Cond.methodLink RX4 88 yX4_oweOneMore, Cond.instanceMethod yX4_oweOneMore, Cond.selects RX4 yX4_oweOneMore yX4_oweOneMore, Cond.code yX4_oweOneMore cX4_oweOneMore 3 none, Cond.methodLink RX4 106 Lib.Math.min.name, Cond.static Lib.Math.min.name, Cond.initialized "java/lang/Math", Cond.code Lib.Math.min.name Lib.Math.min.code 2 (some .int), Cond.methodLink RX4 57 yX4_setDebt, Cond.methodLink RX4 91 yX4_pay, Cond.instanceMethod yX4_pay, Cond.selects RX4 yX4_pay yX4_pay]
def wsL_law_r22 : List Cond := [Cond.code yX4_pay cX4_pay 3 none, Cond.methodLink RX4 103 yX4_paysToday, Cond.instanceMethod yX4_paysToday, Cond.selects RX4 yX4_paysToday yX4_paysToday, Cond.code yX4_paysToday cX4_paysToday 2 (some .boolean), Cond.methodLink RX4 94 yX4_bury, Cond.instanceMethod yX4_bury, Cond.selects RX4 yX4_bury yX4_bury, Cond.code yX4_bury cX4_bury 3 none, Cond.methodLink RX4 97 yX4_passDays, Cond.instanceMethod yX4_passDays, Cond.selects RX4 yX4_passDays yX4_passDays, Cond.code yX4_passDays cX4_passDays 3 none, Cond.methodLink RX4 111 yX4_passDay, Cond.instanceMethod yX4_passDay, Cond.selects RX4 yX4_passDay yX4_passDay, Cond.code yX4_passDay cX4_passDay 3 none, Cond.methodLink RL 47 yX6_wrong, Cond.instanceMethod yX6_wrong, Cond.selects RX6 yX6_wrong yX6_wrong, Cond.code yX6_wrong cX6_wrong 3 (some .int), Cond.methodLink RX6 189 yX6_actOfTwo, Cond.instanceMethod yX6_actOfTwo, Cond.selects RX6 yX6_actOfTwo yX6_actOfTwo]
def wsL_law_r23 : List Cond := [Cond.code yX6_actOfTwo cX6_actOfTwo 5 (some .int), Cond.methodLink RX6 186 yX6_act, Cond.instanceMethod yX6_act, Cond.selects RX6 yX6_act yX6_act, Cond.code yX6_act cX6_act 4 (some .int), Cond.methodLink RL 48 yX5_bow, Cond.instanceMethod yX5_bow, Cond.selects RX5 yX5_bow yX5_bow, Cond.code yX5_bow cX5_bow 3 (some .int), Cond.methodLink RL 51 yX6_bow, Cond.instanceMethod yX6_bow, Cond.selects RX6 yX6_bow yX6_bow, Cond.code yX6_bow cX6_bow 3 (some .int), Cond.methodLink RL 52 yX5_refuse, Cond.instanceMethod yX5_refuse, Cond.selects RX5 yX5_refuse yX5_refuse, Cond.code yX5_refuse cX5_refuse 3 (some .int), Cond.methodLink RL 55 yX6_refuse, Cond.instanceMethod yX6_refuse, Cond.selects RX6 yX6_refuse yX6_refuse, Cond.code yX6_refuse cX6_refuse 3 (some .int), Cond.methodLink RL 56 yX5_atOnce, Cond.instanceMethod yX5_atOnce, Cond.selects RX5 yX5_atOnce yX5_atOnce]
def wsL_law_r24 : List Cond := [Cond.code yX5_atOnce cX5_atOnce 4 (some .int), Cond.methodLink RL 59 yX6_atOnce, Cond.instanceMethod yX6_atOnce, Cond.selects RX6 yX6_atOnce yX6_atOnce, Cond.code yX6_atOnce cX6_atOnce 3 (some .int), Cond.methodLink RL 60 yX5_die, Cond.instanceMethod yX5_die, Cond.selects RX5 yX5_die yX5_die, Cond.code yX5_die cX5_die 3 (some .int), Cond.methodLink RX5 148 yX4_aliveBits, Cond.instanceMethod yX4_aliveBits, Cond.selects RX4 yX4_aliveBits yX4_aliveBits, Cond.code yX4_aliveBits cX4_aliveBits 1 (some .int), Cond.methodLink RX5 151 yJ6_bitCount_0f7a4, Cond.static yJ6_bitCount_0f7a4, Cond.initialized RJ6, Cond.code yJ6_bitCount_0f7a4 cJ6_bitCount_0f7a4 1 (some .int), Cond.constant RJ6 265 (1431655765), Cond.constant RJ6 266 (858993459), Cond.constant RJ6 267 (252645135), Cond.methodLink RL 63 yX6_die, Cond.instanceMethod yX6_die, Cond.selects RX6 yX6_die yX6_die, Cond.code yX6_die cX6_die 3 (some .int)]
def wsL_law_r25 : List Cond := [Cond.methodLink RX6 192 yX6_bits, Cond.static yX6_bits, Cond.code yX6_bits cX6_bits 3 (some .int), Cond.methodLink RL 64 yX5_days, Cond.instanceMethod yX5_days, Cond.selects RX5 yX5_days yX5_days, Cond.code yX5_days cX5_days 3 (some .int), Cond.methodLink RX5 156 yX4_day, Cond.instanceMethod yX4_day, Cond.selects RX4 yX4_day yX4_day, Cond.code yX4_day cX4_day 1 (some .int), Cond.methodLink RL 67 yX6_days, Cond.instanceMethod yX6_days, Cond.selects RX6 yX6_days yX6_days, Cond.code yX6_days cX6_days 3 (some .int), Cond.constantLong RX6 195 (9), Cond.methodLink RL 68 yX5_undo, Cond.instanceMethod yX5_undo, Cond.selects RX5 yX5_undo yX5_undo, Cond.code yX5_undo cX5_undo 1 (some .int), Cond.methodLink RX5 162 yX0_dropLatest, Cond.instanceMethod yX0_dropLatest, Cond.selects RX0 yX0_dropLatest yX0_dropLatest, Cond.code yX0_dropLatest cX0_dropLatest 1 none]
def wsL_law_r26 : List Cond := [Cond.methodLink RX5 165 yX5_doAgain, Cond.instanceMethod yX5_doAgain, Cond.selects RX5 yX5_doAgain yX5_doAgain, Cond.code yX5_doAgain cX5_doAgain 7 none, Cond.methodLink RX5 262 yX0_kindAt, Cond.instanceMethod yX0_kindAt, Cond.selects RX0 yX0_kindAt yX0_kindAt, Cond.code yX0_kindAt cX0_kindAt 2 (some .int), Cond.methodLink RX5 265 yX0_firstAt, Cond.instanceMethod yX0_firstAt, Cond.selects RX0 yX0_firstAt yX0_firstAt, Cond.code yX0_firstAt cX0_firstAt 2 (some .int), Cond.methodLink RX5 268 yX0_secondAt, Cond.instanceMethod yX0_secondAt, Cond.selects RX0 yX0_secondAt yX0_secondAt, Cond.code yX0_secondAt cX0_secondAt 2 (some .int), Cond.methodLink RL 71 yX6_undo, Cond.instanceMethod yX6_undo, Cond.selects RX6 yX6_undo yX6_undo, Cond.code yX6_undo cX6_undo 1 (some .int), Cond.methodLink RL 72 yX5_peace, Cond.instanceMethod yX5_peace, Cond.selects RX5 yX5_peace yX5_peace, Cond.code yX5_peace cX5_peace 3 (some .int)]
def wsL_law_r27 : List Cond := [Cond.methodLink RX5 169 yX4_makePeace, Cond.instanceMethod yX4_makePeace, Cond.selects RX4 yX4_makePeace yX4_makePeace, Cond.code yX4_makePeace cX4_makePeace 3 (some .int), Cond.methodLink RX4 114 yX4_bowAllThatCanBe, Cond.instanceMethod yX4_bowAllThatCanBe, Cond.selects RX4 yX4_bowAllThatCanBe yX4_bowAllThatCanBe, Cond.code yX4_bowAllThatCanBe cX4_bowAllThatCanBe 6 (some .int), Cond.methodLink RX4 118 yX4_firstTwoBowAtOnce, Cond.instanceMethod yX4_firstTwoBowAtOnce, Cond.selects RX4 yX4_firstTwoBowAtOnce yX4_firstTwoBowAtOnce, Cond.code yX4_firstTwoBowAtOnce cX4_firstTwoBowAtOnce 3 (some .boolean), Cond.methodLink RX5 172 yX4_allOwed, Cond.instanceMethod yX4_allOwed, Cond.selects RX4 yX4_allOwed yX4_allOwed, Cond.code yX4_allOwed cX4_allOwed 3 (some .int), Cond.methodLink RX5 175 yX4_stuckBits, Cond.instanceMethod yX4_stuckBits, Cond.selects RX4 yX4_stuckBits yX4_stuckBits, Cond.code yX4_stuckBits cX4_stuckBits 3 (some .int), Cond.methodLink RX4 65 yX4_owedTo, Cond.methodLink RL 75 yX6_peace, Cond.instanceMethod yX6_peace, Cond.selects RX6 yX6_peace yX6_peace]
def wsL_law_r28 : List Cond := [Cond.code yX6_peace cX6_peace 5 (some .int), Cond.methodLink RX6 203 yX6_copy, Cond.instanceMethod yX6_copy, Cond.selects RX6 yX6_copy yX6_copy, Cond.code yX6_copy cX6_copy 4 none, Cond.methodLink RX6 206 yX6_makePeace, Cond.instanceMethod yX6_makePeace, Cond.selects RX6 yX6_makePeace yX6_makePeace, Cond.code yX6_makePeace cX6_makePeace 6 (some .int), Cond.methodLink RX6 197 yX6_firstBow, Cond.instanceMethod yX6_firstBow, Cond.selects RX6 yX6_firstBow yX6_firstBow, Cond.code yX6_firstBow cX6_firstBow 3 (some .int), Cond.methodLink RX6 200 yX6_firstAtOnce, Cond.instanceMethod yX6_firstAtOnce, Cond.selects RX6 yX6_firstAtOnce yX6_firstAtOnce, Cond.code yX6_firstAtOnce cX6_firstAtOnce 5 (some .int), Cond.methodLink RX6 209 yX6_allOf, Cond.instanceMethod yX6_allOf, Cond.selects RX6 yX6_allOf yX6_allOf, Cond.code yX6_allOf cX6_allOf 4 (some .int), Cond.methodLink RL 76 yX5_ring, Cond.instanceMethod yX5_ring, Cond.selects RX5 yX5_ring yX5_ring]
def wsL_law_r29 : List Cond := [Cond.code yX5_ring cX5_ring 7 (some .int), Cond.methodLink RX5 178 yX5_isZeroOrOne, Cond.static yX5_isZeroOrOne, Cond.code yX5_isZeroOrOne cX5_isZeroOrOne 1 (some .boolean), Cond.methodLink RX5 181 yX4_linkDebts, Cond.instanceMethod yX4_linkDebts, Cond.selects RX4 yX4_linkDebts yX4_linkDebts, Cond.code yX4_linkDebts cX4_linkDebts 4 none, Cond.methodLink RX4 73 yX2_clear, Cond.instanceMethod yX2_clear, Cond.selects RX2 yX2_clear yX2_clear, Cond.code yX2_clear cX2_clear 2 none, Cond.methodLink RX2 18 Lib.Math.min.name, Cond.fieldLink RX2 24 "LadderOfBows$Links" "persons" "I", Cond.methodLink RX2 28 yJ7_fill_53178, Cond.methodLink RX4 79 yX2_link, Cond.instanceMethod yX2_link, Cond.selects RX2 yX2_link yX2_link, Cond.code yX2_link cX2_link 3 none, Cond.methodLink RX5 185 yX2_areLinked, Cond.instanceMethod yX2_areLinked, Cond.selects RX2 yX2_areLinked yX2_areLinked, Cond.code yX2_areLinked cX2_areLinked 3 (some .boolean), Cond.methodLink RX5 188 yX2_steps]
def wsL_law_r30 : List Cond := [Cond.instanceMethod yX2_steps, Cond.selects RX2 yX2_steps yX2_steps, Cond.code yX2_steps cX2_steps 5 (some .int), Cond.methodLink RX2 34 yX2_linkedToAny, Cond.instanceMethod yX2_linkedToAny, Cond.selects RX2 yX2_linkedToAny yX2_linkedToAny, Cond.code yX2_linkedToAny cX2_linkedToAny 4 (some .int), Cond.methodLink RL 79 yX6_ring, Cond.instanceMethod yX6_ring, Cond.selects RX6 yX6_ring yX6_ring, Cond.code yX6_ring cX6_ring 6 (some .int), Cond.methodLink RX6 212 yX6_layFar, Cond.instanceMethod yX6_layFar, Cond.selects RX6 yX6_layFar yX6_layFar, Cond.code yX6_layFar cX6_layFar 5 none, Cond.methodLink RL 80 yX5_forgiven, Cond.instanceMethod yX5_forgiven, Cond.selects RX5 yX5_forgiven yX5_forgiven, Cond.code yX5_forgiven cX5_forgiven 7 (some .int), Cond.methodLink RX5 191 yX5_listDebts, Cond.instanceMethod yX5_listDebts, Cond.selects RX5 yX5_listDebts yX5_listDebts, Cond.code yX5_listDebts cX5_listDebts 4 (some .int), Cond.methodLink RX5 243 yX5_twoAsNumber]
def wsL_law_r31 : List Cond := [Cond.static yX5_twoAsNumber, Cond.code yX5_twoAsNumber cX5_twoAsNumber 2 (some .int), Cond.methodLink RX5 194 yX5_owedWithout, Cond.instanceMethod yX5_owedWithout, Cond.selects RX5 yX5_owedWithout yX5_owedWithout, Cond.code yX5_owedWithout cX5_owedWithout 3 (some .int), Cond.methodLink RX5 271 yX5_forgiveInTrial, Cond.instanceMethod yX5_forgiveInTrial, Cond.selects RX5 yX5_forgiveInTrial yX5_forgiveInTrial, Cond.code yX5_forgiveInTrial cX5_forgiveInTrial 3 none, Cond.methodLink RX5 274 yX4_setDebt, Cond.methodLink RL 83 yX6_forgiven, Cond.instanceMethod yX6_forgiven, Cond.selects RX6 yX6_forgiven yX6_forgiven, Cond.code yX6_forgiven cX6_forgiven 6 (some .int), Cond.methodLink RX6 215 yX6_owedBehind, Cond.instanceMethod yX6_owedBehind, Cond.selects RX6 yX6_owedBehind yX6_owedBehind, Cond.code yX6_owedBehind cX6_owedBehind 2 (some .int), Cond.methodLink RL 84 yX5_mustNot, Cond.instanceMethod yX5_mustNot, Cond.selects RX5 yX5_mustNot yX5_mustNot, Cond.code yX5_mustNot cX5_mustNot 5 (some .int), Cond.methodLink RX5 201 yX5_owedBehindWrong]
def wsL_law_r32 : List Cond := [Cond.instanceMethod yX5_owedBehindWrong, Cond.selects RX5 yX5_owedBehindWrong yX5_owedBehindWrong, Cond.code yX5_owedBehindWrong cX5_owedBehindWrong 3 (some .int), Cond.methodLink RL 87 yX6_mustNot, Cond.instanceMethod yX6_mustNot, Cond.selects RX6 yX6_mustNot yX6_mustNot, Cond.code yX6_mustNot cX6_mustNot 5 (some .int), Cond.methodLink RL 88 yX5_began, Cond.instanceMethod yX5_began, Cond.selects RX5 yX5_began yX5_began, Cond.code yX5_began cX5_began 3 (some .int), Cond.methodLink RL 91 yX6_began, Cond.instanceMethod yX6_began, Cond.selects RX6 yX6_began yX6_began, Cond.code yX6_began cX6_began 3 (some .int), Cond.methodLink RL 92 yX5_word, Cond.instanceMethod yX5_word, Cond.selects RX5 yX5_word yX5_word, Cond.code yX5_word cX5_word 3 (some .int), Cond.methodLink RX5 204 yX4_linkSpeakers, Cond.instanceMethod yX4_linkSpeakers, Cond.selects RX4 yX4_linkSpeakers yX4_linkSpeakers, Cond.code yX4_linkSpeakers cX4_linkSpeakers 4 none, Cond.methodLink RX4 69 yX4_maySpeak]
def wsL_law_r33 : List Cond := [Cond.methodLink RL 95 yX6_word, Cond.instanceMethod yX6_word, Cond.selects RX6 yX6_word yX6_word, Cond.code yX6_word cX6_word 7 (some .int), Cond.methodLink RL 96 yX5_vote, Cond.instanceMethod yX5_vote, Cond.selects RX5 yX5_vote yX5_vote, Cond.code yX5_vote cX5_vote 1 (some .int), Cond.methodLink RX5 207 yX2_largestSet, Cond.instanceMethod yX2_largestSet, Cond.selects RX2 yX2_largestSet yX2_largestSet, Cond.code yX2_largestSet cX2_largestSet 5 (some .int), Cond.methodLink RX2 38 yJ6_bitCount_0f7a4, Cond.methodLink RX2 43 yX2_areAllLinked, Cond.instanceMethod yX2_areAllLinked, Cond.selects RX2 yX2_areAllLinked yX2_areAllLinked, Cond.code yX2_areAllLinked cX2_areAllLinked 4 (some .boolean), Cond.methodLink RL 99 yX6_vote, Cond.instanceMethod yX6_vote, Cond.selects RX6 yX6_vote yX6_vote, Cond.code yX6_vote cX6_vote 3 (some .int), Cond.methodLink RX6 218 yX6_mayAll, Cond.instanceMethod yX6_mayAll, Cond.selects RX6 yX6_mayAll yX6_mayAll]
def wsL_law_r34 : List Cond := [Cond.code yX6_mayAll cX6_mayAll 4 (some .boolean), Cond.methodLink RL 100 yX5_deals, Cond.instanceMethod yX5_deals, Cond.selects RX5 yX5_deals yX5_deals, Cond.code yX5_deals cX5_deals 1 (some .int), Cond.methodLink RX5 210 yX2_mostTwos, Cond.instanceMethod yX2_mostTwos, Cond.selects RX2 yX2_mostTwos yX2_mostTwos, Cond.code yX2_mostTwos cX2_mostTwos 3 (some .int), Cond.methodLink RX2 47 yX2_mostTwosWithin, Cond.instanceMethod yX2_mostTwosWithin, Cond.selects RX2 yX2_mostTwosWithin yX2_mostTwosWithin, Cond.code yX2_mostTwosWithin cX2_mostTwosWithin 6 (some .int), Cond.methodLink RX2 50 Lib.Math.max.name, Cond.static Lib.Math.max.name, Cond.code Lib.Math.max.name Lib.Math.max.code 2 (some .int), Cond.methodLink RL 103 yX6_deals, Cond.instanceMethod yX6_deals, Cond.selects RX6 yX6_deals yX6_deals, Cond.code yX6_deals cX6_deals 6 (some .int), Cond.methodLink RL 104 yX5_guests, Cond.instanceMethod yX5_guests, Cond.selects RX5 yX5_guests yX5_guests, Cond.code yX5_guests cX5_guests 3 (some .int)]
def wsL_law_r35 : List Cond := [Cond.methodLink RX5 213 yX2_linkedTo, Cond.instanceMethod yX2_linkedTo, Cond.selects RX2 yX2_linkedTo yX2_linkedTo, Cond.code yX2_linkedTo cX2_linkedTo 2 (some .int), Cond.methodLink RL 107 yX6_guests, Cond.instanceMethod yX6_guests, Cond.selects RX6 yX6_guests yX6_guests, Cond.code yX6_guests cX6_guests 5 (some .int), Cond.methodLink RL 108 yX5_court, Cond.instanceMethod yX5_court, Cond.selects RX5 yX5_court yX5_court, Cond.code yX5_court cX5_court 7 (some .int), Cond.methodLink RX5 216 yX5_lotsThatFree, Cond.instanceMethod yX5_lotsThatFree, Cond.selects RX5 yX5_lotsThatFree yX5_lotsThatFree, Cond.code yX5_lotsThatFree cX5_lotsThatFree 6 (some .int), Cond.methodLink RX5 219 yX5_lotsInAll, Cond.static yX5_lotsInAll, Cond.code yX5_lotsInAll cX5_lotsInAll 2 (some .int), Cond.methodLink RX5 222 yX5_greatestDivisor, Cond.static yX5_greatestDivisor, Cond.code yX5_greatestDivisor cX5_greatestDivisor 6 (some .int), Cond.methodLink RL 111 yX6_court, Cond.instanceMethod yX6_court]
def wsL_law_r36 : List Cond := [Cond.selects RX6 yX6_court yX6_court, Cond.code yX6_court cX6_court 8 (some .int), Cond.methodLink RX6 221 yX6_isFreeBut, Cond.instanceMethod yX6_isFreeBut, Cond.selects RX6 yX6_isFreeBut yX6_isFreeBut, Cond.code yX6_isFreeBut cX6_isFreeBut 3 (some .boolean), Cond.methodLink RL 112 yX5_stranger, Cond.instanceMethod yX5_stranger, Cond.selects RX5 yX5_stranger yX5_stranger, Cond.code yX5_stranger cX5_stranger 6 (some .int), Cond.methodLink RX5 225 yX4_addStranger, Cond.instanceMethod yX4_addStranger, Cond.selects RX4 yX4_addStranger yX4_addStranger, Cond.code yX4_addStranger cX4_addStranger 3 none, Cond.methodLink RX4 49 yX4_addPerson, Cond.methodLink RL 115 yX6_stranger, Cond.instanceMethod yX6_stranger, Cond.selects RX6 yX6_stranger yX6_stranger, Cond.code yX6_stranger cX6_stranger 7 (some .int), Cond.methodLink RL 116 yX5_easter, Cond.instanceMethod yX5_easter, Cond.selects RX5 yX5_easter yX5_easter, Cond.code yX5_easter cX5_easter 2 (some .int), Cond.methodLink RX5 228 yX4_easterDay]
def wsL_law_r37 : List Cond := [Cond.instanceMethod yX4_easterDay, Cond.selects RX4 yX4_easterDay yX4_easterDay, Cond.code yX4_easterDay cX4_easterDay 1 (some .int), Cond.methodLink RX5 231 yX4_passDay, Cond.methodLink RL 119 yX6_easter, Cond.instanceMethod yX6_easter, Cond.selects RX6 yX6_easter yX6_easter, Cond.code yX6_easter cX6_easter 1 (some .int), Cond.methodLink RL 120 yX5_silent, Cond.instanceMethod yX5_silent, Cond.selects RX5 yX5_silent yX5_silent, Cond.code yX5_silent cX5_silent 2 (some .int), Cond.methodLink RL 123 yX6_silent, Cond.instanceMethod yX6_silent, Cond.selects RX6 yX6_silent yX6_silent, Cond.code yX6_silent cX6_silent 2 (some .int), Cond.constantLong RX6 224 (3), Cond.methodLink RL 124 yX5_forget, Cond.instanceMethod yX5_forget, Cond.selects RX5 yX5_forget yX5_forget, Cond.code yX5_forget cX5_forget 2 (some .int), Cond.methodLink RL 127 yX6_forget, Cond.instanceMethod yX6_forget, Cond.selects RX6 yX6_forget yX6_forget]
def wsL_law_r38 : List Cond := [Cond.code yX6_forget cX6_forget 2 (some .int), Cond.methodLink RL 128 yX5_fits, Cond.instanceMethod yX5_fits, Cond.selects RX5 yX5_fits yX5_fits, Cond.code yX5_fits cX5_fits 6 (some .int), Cond.methodLink RX5 240 yX5_wrongFits, Cond.instanceMethod yX5_wrongFits, Cond.selects RX5 yX5_wrongFits yX5_wrongFits, Cond.code yX5_wrongFits cX5_wrongFits 3 (some .boolean), Cond.methodLink RX5 277 yX4_anySpeakIn, Cond.instanceMethod yX4_anySpeakIn, Cond.selects RX4 yX4_anySpeakIn yX4_anySpeakIn, Cond.code yX4_anySpeakIn cX4_anySpeakIn 5 (some .boolean), Cond.methodLink RL 131 yX6_fits, Cond.instanceMethod yX6_fits, Cond.selects RX6 yX6_fits yX6_fits, Cond.code yX6_fits cX6_fits 5 (some .int), Cond.methodLink RX6 226 yX6_areSilent, Cond.instanceMethod yX6_areSilent, Cond.selects RX6 yX6_areSilent yX6_areSilent, Cond.code yX6_areSilent cX6_areSilent 6 (some .boolean), Cond.methodLink RL 132 yX5_year, Cond.instanceMethod yX5_year, Cond.selects RX5 yX5_year yX5_year]
def wsL_law_r39 : List Cond := [Cond.code yX5_year cX5_year 6 (some .int), Cond.methodLink RX5 246 yX5_bowsInStep, Cond.instanceMethod yX5_bowsInStep, Cond.selects RX5 yX5_bowsInStep yX5_bowsInStep, Cond.code yX5_bowsInStep cX5_bowsInStep 11 (some .int), Cond.constantLong RX5 280 (7919), Cond.constantLong RX5 282 (6151), Cond.constantLong RX5 284 (65521), Cond.methodLink RL 136 yX6_year, Cond.instanceMethod yX6_year, Cond.selects RX6 yX6_year yX6_year, Cond.code yX6_year cX6_year 12 (some .int), Cond.constantLong RX6 229 (9999), Cond.constantLong RX6 231 (7919), Cond.constantLong RX6 233 (6151), Cond.constantLong RX6 235 (65521), Cond.methodLink RL 137 yX5_keep, Cond.instanceMethod yX5_keep, Cond.selects RX5 yX5_keep yX5_keep, Cond.code yX5_keep cX5_keep 1 (some .int), Cond.methodLink RX5 249 yX5_latestKept, Cond.instanceMethod yX5_latestKept, Cond.selects RX5 yX5_latestKept yX5_latestKept, Cond.code yX5_latestKept cX5_latestKept 1 (some (.object "LadderOfBows$Acts"))]
def wsL_law_r40 : List Cond := [Cond.methodLink RX5 253 yX0_copyFrom, Cond.instanceMethod yX0_copyFrom, Cond.selects RX0 yX0_copyFrom yX0_copyFrom, Cond.code yX0_copyFrom cX0_copyFrom 2 none, Cond.methodLink RX0 25 arraycopyName, Cond.methodLink RL 140 yX6_keep, Cond.instanceMethod yX6_keep, Cond.selects RX6 yX6_keep yX6_keep, Cond.code yX6_keep cX6_keep 1 (some .int), Cond.methodLink RX6 237 yX6_copyActs, Cond.instanceMethod yX6_copyActs, Cond.selects RX6 yX6_copyActs yX6_copyActs, Cond.code yX6_copyActs cX6_copyActs 4 none, Cond.methodLink RL 141 yX5_back, Cond.instanceMethod yX5_back, Cond.selects RX5 yX5_back yX5_back, Cond.code yX5_back cX5_back 1 (some .int), Cond.methodLink RL 144 yX6_back, Cond.instanceMethod yX6_back, Cond.selects RX6 yX6_back yX6_back, Cond.code yX6_back cX6_back 1 (some .int), Cond.methodLink RL 145 yX5_count, Cond.instanceMethod yX5_count, Cond.selects RX5 yX5_count yX5_count]
def wsL_law_r41 : List Cond := [Cond.code yX5_count cX5_count 2 (some .int), Cond.methodLink RL 148 yX6_count, Cond.instanceMethod yX6_count, Cond.selects RX6 yX6_count yX6_count, Cond.code yX6_count cX6_count 2 (some .int)]
def wsL_law : List Cond := (wsL_law_r1 ++ (wsL_law_r2 ++ (wsL_law_r3 ++ (wsL_law_r4 ++ (wsL_law_r5 ++ (wsL_law_r6 ++ (wsL_law_r7 ++ (wsL_law_r8 ++ (wsL_law_r9 ++ (wsL_law_r10 ++ (wsL_law_r11 ++ (wsL_law_r12 ++ (wsL_law_r13 ++ (wsL_law_r14 ++ (wsL_law_r15 ++ (wsL_law_r16 ++ (wsL_law_r17 ++ (wsL_law_r18 ++ (wsL_law_r19 ++ (wsL_law_r20 ++ (wsL_law_r21 ++ (wsL_law_r22 ++ (wsL_law_r23 ++ (wsL_law_r24 ++ (wsL_law_r25 ++ (wsL_law_r26 ++ (wsL_law_r27 ++ (wsL_law_r28 ++ (wsL_law_r29 ++ (wsL_law_r30 ++ (wsL_law_r31 ++ (wsL_law_r32 ++ (wsL_law_r33 ++ (wsL_law_r34 ++ (wsL_law_r35 ++ (wsL_law_r36 ++ (wsL_law_r37 ++ (wsL_law_r38 ++ (wsL_law_r39 ++ (wsL_law_r40 ++ wsL_law_r41)))))))))))))))))))))))))))))))))))))))) ++ wsX50 ++ wsX60 ++ wsX10 ++ wsX30 ++ wsX40 ++ wsX00 ++ wsX20 ++ ([] : List Cond)
theorem inlX0 : ∀ w ∈ wsX00, w ∈ wsL_law := fun _ h => List.mem_append_left _ (List.mem_append_left _ (List.mem_append_right _ h))
theorem inlX1 : ∀ w ∈ wsX10, w ∈ wsL_law := fun _ h => List.mem_append_left _ (List.mem_append_left _ (List.mem_append_left _ (List.mem_append_left _ (List.mem_append_left _ (List.mem_append_right _ h)))))
theorem inlX2 : ∀ w ∈ wsX20, w ∈ wsL_law := fun _ h => List.mem_append_left _ (List.mem_append_right _ h)
theorem inlX3 : ∀ w ∈ wsX30, w ∈ wsL_law := fun _ h => List.mem_append_left _ (List.mem_append_left _ (List.mem_append_left _ (List.mem_append_left _ (List.mem_append_right _ h))))
theorem inlX4 : ∀ w ∈ wsX40, w ∈ wsL_law := fun _ h => List.mem_append_left _ (List.mem_append_left _ (List.mem_append_left _ (List.mem_append_right _ h)))
theorem inlX5 : ∀ w ∈ wsX50, w ∈ wsL_law := fun _ h => List.mem_append_left _ (List.mem_append_left _ (List.mem_append_left _ (List.mem_append_left _ (List.mem_append_left _ (List.mem_append_left _ (List.mem_append_left _ (List.mem_append_right _ h)))))))
theorem inlX6 : ∀ w ∈ wsX60, w ∈ wsL_law := fun _ h => List.mem_append_left _ (List.mem_append_left _ (List.mem_append_left _ (List.mem_append_left _ (List.mem_append_left _ (List.mem_append_left _ (List.mem_append_right _ h))))))
theorem inJx145de : ∀ w ∈ wsJx145de0, w ∈ lw_tbl := by decide +kernel
theorem inJx9f9b0 : ∀ w ∈ wsJx9f9b00, w ∈ lw_tbl := by decide +kernel
theorem inJxb160c : ∀ w ∈ wsJxb160c0, w ∈ lw_tbl := by decide +kernel
theorem inJ6 : ∀ w ∈ wsJ60, w ∈ lw_tbl := by decide +kernel
theorem inJ9 : ∀ w ∈ wsJ90, w ∈ lw_tbl := by decide +kernel
theorem inJ0 : ∀ w ∈ wsJ00, w ∈ lw_tbl := by decide +kernel
theorem inJ1 : ∀ w ∈ wsJ10, w ∈ lw_tbl := by decide +kernel
theorem inJ2 : ∀ w ∈ wsJ20, w ∈ lw_tbl := by decide +kernel
theorem inJ10 : ∀ w ∈ wsJ100, w ∈ lw_tbl := by decide +kernel
theorem inJxfd54e : ∀ w ∈ wsJxfd54e0, w ∈ lw_tbl := by decide +kernel
theorem inJx3cf43 : ∀ w ∈ wsJx3cf430, w ∈ lw_tbl := by decide +kernel
theorem inJ7 : ∀ w ∈ wsJ70, w ∈ lw_tbl := by decide +kernel
theorem inJ3 : ∀ w ∈ wsJ30, w ∈ lw_tbl := by decide +kernel
theorem dX0_init_0 : decode cX0_init 0 = .ok (.aload_n 0, 1) := by decide +kernel
theorem dX0_init_1 : decode cX0_init 1 = .ok (.invokespecial 3, 3) := by decide +kernel
theorem dX0_init_4 : decode cX0_init 4 = .ok (.aload_n 0, 1) := by decide +kernel
theorem dX0_init_5 : decode cX0_init 5 = .ok (.bipush 40, 2) := by decide +kernel
theorem dX0_init_7 : decode cX0_init 7 = .ok (.newarray .int, 2) := by decide +kernel
theorem dX0_init_9 : decode cX0_init 9 = .ok (.putfield 9, 3) := by decide +kernel
theorem dX0_init_12 : decode cX0_init 12 = .ok (.aload_n 0, 1) := by decide +kernel
theorem dX0_init_13 : decode cX0_init 13 = .ok (.bipush 40, 2) := by decide +kernel
theorem dX0_init_15 : decode cX0_init 15 = .ok (.newarray .int, 2) := by decide +kernel
theorem dX0_init_17 : decode cX0_init 17 = .ok (.putfield 15, 3) := by decide +kernel
theorem dX0_init_20 : decode cX0_init 20 = .ok (.aload_n 0, 1) := by decide +kernel
theorem dX0_init_21 : decode cX0_init 21 = .ok (.bipush 40, 2) := by decide +kernel
theorem dX0_init_23 : decode cX0_init 23 = .ok (.newarray .int, 2) := by decide +kernel
theorem dX0_init_25 : decode cX0_init 25 = .ok (.putfield 18, 3) := by decide +kernel
theorem dX0_init_28 : decode cX0_init 28 = .ok (.return_, 1) := by decide +kernel
theorem dX0_clear_0 : decode cX0_clear 0 = .ok (.aload_n 0, 1) := by decide +kernel
theorem dX0_clear_1 : decode cX0_clear 1 = .ok (.iconst 0, 1) := by decide +kernel
theorem dX0_clear_2 : decode cX0_clear 2 = .ok (.putfield 21, 3) := by decide +kernel
theorem dX0_clear_5 : decode cX0_clear 5 = .ok (.return_, 1) := by decide +kernel
theorem dX0_copyFrom_0 : decode cX0_copyFrom 0 = .ok (.aload_n 1, 1) := by decide +kernel
theorem dX0_copyFrom_1 : decode cX0_copyFrom 1 = .ok (.getfield 9, 3) := by decide +kernel
theorem dX0_copyFrom_4 : decode cX0_copyFrom 4 = .ok (.iconst 0, 1) := by decide +kernel
theorem dX0_copyFrom_5 : decode cX0_copyFrom 5 = .ok (.aload_n 0, 1) := by decide +kernel
theorem dX0_copyFrom_6 : decode cX0_copyFrom 6 = .ok (.getfield 9, 3) := by decide +kernel
theorem dX0_copyFrom_9 : decode cX0_copyFrom 9 = .ok (.iconst 0, 1) := by decide +kernel
theorem dX0_copyFrom_10 : decode cX0_copyFrom 10 = .ok (.bipush 40, 2) := by decide +kernel
theorem dX0_copyFrom_12 : decode cX0_copyFrom 12 = .ok (.invokestatic 25, 3) := by decide +kernel
theorem dX0_copyFrom_15 : decode cX0_copyFrom 15 = .ok (.aload_n 1, 1) := by decide +kernel
theorem dX0_copyFrom_16 : decode cX0_copyFrom 16 = .ok (.getfield 15, 3) := by decide +kernel
theorem dX0_copyFrom_19 : decode cX0_copyFrom 19 = .ok (.iconst 0, 1) := by decide +kernel
theorem dX0_copyFrom_20 : decode cX0_copyFrom 20 = .ok (.aload_n 0, 1) := by decide +kernel
theorem dX0_copyFrom_21 : decode cX0_copyFrom 21 = .ok (.getfield 15, 3) := by decide +kernel
theorem dX0_copyFrom_24 : decode cX0_copyFrom 24 = .ok (.iconst 0, 1) := by decide +kernel
theorem dX0_copyFrom_25 : decode cX0_copyFrom 25 = .ok (.bipush 40, 2) := by decide +kernel
theorem dX0_copyFrom_27 : decode cX0_copyFrom 27 = .ok (.invokestatic 25, 3) := by decide +kernel
theorem dX0_copyFrom_30 : decode cX0_copyFrom 30 = .ok (.aload_n 1, 1) := by decide +kernel
theorem dX0_copyFrom_31 : decode cX0_copyFrom 31 = .ok (.getfield 18, 3) := by decide +kernel
theorem dX0_copyFrom_34 : decode cX0_copyFrom 34 = .ok (.iconst 0, 1) := by decide +kernel
theorem dX0_copyFrom_35 : decode cX0_copyFrom 35 = .ok (.aload_n 0, 1) := by decide +kernel
theorem dX0_copyFrom_36 : decode cX0_copyFrom 36 = .ok (.getfield 18, 3) := by decide +kernel
theorem dX0_copyFrom_39 : decode cX0_copyFrom 39 = .ok (.iconst 0, 1) := by decide +kernel
theorem dX0_copyFrom_40 : decode cX0_copyFrom 40 = .ok (.bipush 40, 2) := by decide +kernel
theorem dX0_copyFrom_42 : decode cX0_copyFrom 42 = .ok (.invokestatic 25, 3) := by decide +kernel
theorem dX0_copyFrom_45 : decode cX0_copyFrom 45 = .ok (.aload_n 0, 1) := by decide +kernel
theorem dX0_copyFrom_46 : decode cX0_copyFrom 46 = .ok (.aload_n 1, 1) := by decide +kernel
theorem dX0_copyFrom_47 : decode cX0_copyFrom 47 = .ok (.getfield 21, 3) := by decide +kernel
theorem dX0_copyFrom_50 : decode cX0_copyFrom 50 = .ok (.putfield 21, 3) := by decide +kernel
theorem dX0_copyFrom_53 : decode cX0_copyFrom 53 = .ok (.return_, 1) := by decide +kernel
theorem dX0_add_0 : decode cX0_add 0 = .ok (.aload_n 0, 1) := by decide +kernel
theorem dX0_add_1 : decode cX0_add 1 = .ok (.getfield 21, 3) := by decide +kernel
theorem dX0_add_4 : decode cX0_add 4 = .ok (.bipush 40, 2) := by decide +kernel
theorem dX0_add_6 : decode cX0_add 6 = .ok (.if_icmp .ge 43, 3) := by decide +kernel
theorem dX0_add_9 : decode cX0_add 9 = .ok (.aload_n 0, 1) := by decide +kernel
theorem dX0_add_10 : decode cX0_add 10 = .ok (.getfield 9, 3) := by decide +kernel
theorem dX0_add_13 : decode cX0_add 13 = .ok (.aload_n 0, 1) := by decide +kernel
theorem dX0_add_14 : decode cX0_add 14 = .ok (.getfield 21, 3) := by decide +kernel
theorem dX0_add_17 : decode cX0_add 17 = .ok (.iload_n 1, 1) := by decide +kernel
theorem dX0_add_18 : decode cX0_add 18 = .ok (.iastore, 1) := by decide +kernel
theorem dX0_add_19 : decode cX0_add 19 = .ok (.aload_n 0, 1) := by decide +kernel
theorem dX0_add_20 : decode cX0_add 20 = .ok (.getfield 15, 3) := by decide +kernel
theorem dX0_add_23 : decode cX0_add 23 = .ok (.aload_n 0, 1) := by decide +kernel
theorem dX0_add_24 : decode cX0_add 24 = .ok (.getfield 21, 3) := by decide +kernel
theorem dX0_add_27 : decode cX0_add 27 = .ok (.iload_n 2, 1) := by decide +kernel
theorem dX0_add_28 : decode cX0_add 28 = .ok (.iastore, 1) := by decide +kernel
theorem dX0_add_29 : decode cX0_add 29 = .ok (.aload_n 0, 1) := by decide +kernel
theorem dX0_add_30 : decode cX0_add 30 = .ok (.getfield 18, 3) := by decide +kernel
theorem dX0_add_33 : decode cX0_add 33 = .ok (.aload_n 0, 1) := by decide +kernel
theorem dX0_add_34 : decode cX0_add 34 = .ok (.getfield 21, 3) := by decide +kernel
theorem dX0_add_37 : decode cX0_add 37 = .ok (.iload_n 3, 1) := by decide +kernel
theorem dX0_add_38 : decode cX0_add 38 = .ok (.iastore, 1) := by decide +kernel
theorem dX0_add_39 : decode cX0_add 39 = .ok (.aload_n 0, 1) := by decide +kernel
theorem dX0_add_40 : decode cX0_add 40 = .ok (.dup, 1) := by decide +kernel
theorem dX0_add_41 : decode cX0_add 41 = .ok (.getfield 21, 3) := by decide +kernel
theorem dX0_add_44 : decode cX0_add 44 = .ok (.iconst 1, 1) := by decide +kernel
theorem dX0_add_45 : decode cX0_add 45 = .ok (.iadd, 1) := by decide +kernel
theorem dX0_add_46 : decode cX0_add 46 = .ok (.putfield 21, 3) := by decide +kernel
theorem dX0_add_49 : decode cX0_add 49 = .ok (.return_, 1) := by decide +kernel
theorem dX0_dropLatest_0 : decode cX0_dropLatest 0 = .ok (.aload_n 0, 1) := by decide +kernel
theorem dX0_dropLatest_1 : decode cX0_dropLatest 1 = .ok (.getfield 21, 3) := by decide +kernel
theorem dX0_dropLatest_4 : decode cX0_dropLatest 4 = .ok (.ifCond .le 13, 3) := by decide +kernel
theorem dX0_dropLatest_7 : decode cX0_dropLatest 7 = .ok (.aload_n 0, 1) := by decide +kernel
theorem dX0_dropLatest_8 : decode cX0_dropLatest 8 = .ok (.dup, 1) := by decide +kernel
theorem dX0_dropLatest_9 : decode cX0_dropLatest 9 = .ok (.getfield 21, 3) := by decide +kernel
theorem dX0_dropLatest_12 : decode cX0_dropLatest 12 = .ok (.iconst 1, 1) := by decide +kernel
theorem dX0_dropLatest_13 : decode cX0_dropLatest 13 = .ok (.isub, 1) := by decide +kernel
theorem dX0_dropLatest_14 : decode cX0_dropLatest 14 = .ok (.putfield 21, 3) := by decide +kernel
theorem dX0_dropLatest_17 : decode cX0_dropLatest 17 = .ok (.return_, 1) := by decide +kernel
theorem dX0_size_0 : decode cX0_size 0 = .ok (.aload_n 0, 1) := by decide +kernel
theorem dX0_size_1 : decode cX0_size 1 = .ok (.getfield 21, 3) := by decide +kernel
theorem dX0_size_4 : decode cX0_size 4 = .ok (.ireturn, 1) := by decide +kernel
theorem dX0_kindAt_0 : decode cX0_kindAt 0 = .ok (.aload_n 0, 1) := by decide +kernel
theorem dX0_kindAt_1 : decode cX0_kindAt 1 = .ok (.getfield 9, 3) := by decide +kernel
theorem dX0_kindAt_4 : decode cX0_kindAt 4 = .ok (.iload_n 1, 1) := by decide +kernel
theorem dX0_kindAt_5 : decode cX0_kindAt 5 = .ok (.iaload, 1) := by decide +kernel
theorem dX0_kindAt_6 : decode cX0_kindAt 6 = .ok (.ireturn, 1) := by decide +kernel
theorem dX0_firstAt_0 : decode cX0_firstAt 0 = .ok (.aload_n 0, 1) := by decide +kernel
theorem dX0_firstAt_1 : decode cX0_firstAt 1 = .ok (.getfield 15, 3) := by decide +kernel
theorem dX0_firstAt_4 : decode cX0_firstAt 4 = .ok (.iload_n 1, 1) := by decide +kernel
theorem dX0_firstAt_5 : decode cX0_firstAt 5 = .ok (.iaload, 1) := by decide +kernel
theorem dX0_firstAt_6 : decode cX0_firstAt 6 = .ok (.ireturn, 1) := by decide +kernel
theorem dX0_secondAt_0 : decode cX0_secondAt 0 = .ok (.aload_n 0, 1) := by decide +kernel
theorem dX0_secondAt_1 : decode cX0_secondAt 1 = .ok (.getfield 18, 3) := by decide +kernel
theorem dX0_secondAt_4 : decode cX0_secondAt 4 = .ok (.iload_n 1, 1) := by decide +kernel
theorem dX0_secondAt_5 : decode cX0_secondAt 5 = .ok (.iaload, 1) := by decide +kernel
theorem dX0_secondAt_6 : decode cX0_secondAt 6 = .ok (.ireturn, 1) := by decide +kernel
theorem dX1_init_0 : decode cX1_init 0 = .ok (.aload_n 0, 1) := by decide +kernel
theorem dX1_init_1 : decode cX1_init 1 = .ok (.invokespecial 3, 3) := by decide +kernel
theorem dX1_init_4 : decode cX1_init 4 = .ok (.aload_n 0, 1) := by decide +kernel
theorem dX1_init_5 : decode cX1_init 5 = .ok (.sipush 200, 3) := by decide +kernel
theorem dX1_init_8 : decode cX1_init 8 = .ok (.newarray .int, 2) := by decide +kernel
theorem dX1_init_10 : decode cX1_init 10 = .ok (.putfield 9, 3) := by decide +kernel
theorem dX1_init_13 : decode cX1_init 13 = .ok (.return_, 1) := by decide +kernel
theorem dX1_clear_0 : decode cX1_clear 0 = .ok (.aload_n 0, 1) := by decide +kernel
theorem dX1_clear_1 : decode cX1_clear 1 = .ok (.iconst 0, 1) := by decide +kernel
theorem dX1_clear_2 : decode cX1_clear 2 = .ok (.putfield 15, 3) := by decide +kernel
theorem dX1_clear_5 : decode cX1_clear 5 = .ok (.return_, 1) := by decide +kernel
theorem dX1_add_0 : decode cX1_add 0 = .ok (.aload_n 0, 1) := by decide +kernel
theorem dX1_add_1 : decode cX1_add 1 = .ok (.getfield 15, 3) := by decide +kernel
theorem dX1_add_4 : decode cX1_add 4 = .ok (.sipush 200, 3) := by decide +kernel
theorem dX1_add_7 : decode cX1_add 7 = .ok (.if_icmp .ge 23, 3) := by decide +kernel
theorem dX1_add_10 : decode cX1_add 10 = .ok (.aload_n 0, 1) := by decide +kernel
theorem dX1_add_11 : decode cX1_add 11 = .ok (.getfield 9, 3) := by decide +kernel
theorem dX1_add_14 : decode cX1_add 14 = .ok (.aload_n 0, 1) := by decide +kernel
theorem dX1_add_15 : decode cX1_add 15 = .ok (.getfield 15, 3) := by decide +kernel
theorem dX1_add_18 : decode cX1_add 18 = .ok (.iload_n 1, 1) := by decide +kernel
theorem dX1_add_19 : decode cX1_add 19 = .ok (.iastore, 1) := by decide +kernel
theorem dX1_add_20 : decode cX1_add 20 = .ok (.aload_n 0, 1) := by decide +kernel
theorem dX1_add_21 : decode cX1_add 21 = .ok (.dup, 1) := by decide +kernel
theorem dX1_add_22 : decode cX1_add 22 = .ok (.getfield 15, 3) := by decide +kernel
theorem dX1_add_25 : decode cX1_add 25 = .ok (.iconst 1, 1) := by decide +kernel
theorem dX1_add_26 : decode cX1_add 26 = .ok (.iadd, 1) := by decide +kernel
theorem dX1_add_27 : decode cX1_add 27 = .ok (.putfield 15, 3) := by decide +kernel
theorem dX1_add_30 : decode cX1_add 30 = .ok (.return_, 1) := by decide +kernel
theorem dX1_length_0 : decode cX1_length 0 = .ok (.aload_n 0, 1) := by decide +kernel
theorem dX1_length_1 : decode cX1_length 1 = .ok (.getfield 15, 3) := by decide +kernel
theorem dX1_length_4 : decode cX1_length 4 = .ok (.ireturn, 1) := by decide +kernel
theorem dX1_at_0 : decode cX1_at 0 = .ok (.iload_n 1, 1) := by decide +kernel
theorem dX1_at_1 : decode cX1_at 1 = .ok (.ifCond .lt 20, 3) := by decide +kernel
theorem dX1_at_4 : decode cX1_at 4 = .ok (.iload_n 1, 1) := by decide +kernel
theorem dX1_at_5 : decode cX1_at 5 = .ok (.aload_n 0, 1) := by decide +kernel
theorem dX1_at_6 : decode cX1_at 6 = .ok (.getfield 15, 3) := by decide +kernel
theorem dX1_at_9 : decode cX1_at 9 = .ok (.if_icmp .ge 12, 3) := by decide +kernel
theorem dX1_at_12 : decode cX1_at 12 = .ok (.aload_n 0, 1) := by decide +kernel
theorem dX1_at_13 : decode cX1_at 13 = .ok (.getfield 9, 3) := by decide +kernel
theorem dX1_at_16 : decode cX1_at 16 = .ok (.iload_n 1, 1) := by decide +kernel
theorem dX1_at_17 : decode cX1_at 17 = .ok (.iaload, 1) := by decide +kernel
theorem dX1_at_18 : decode cX1_at 18 = .ok (.goto 4, 3) := by decide +kernel
theorem dX1_at_21 : decode cX1_at 21 = .ok (.iconst 0, 1) := by decide +kernel
theorem dX1_at_22 : decode cX1_at 22 = .ok (.ireturn, 1) := by decide +kernel
set_option maxRecDepth 20000 in
theorem ggX1_figureAt_X1_at : GoodIn wsX1_figureAt wsX1_at := goodIn_r _ [5, 6, 7, 8, 9] (by decide +kernel) (by decide +kernel)
set_option maxRecDepth 20000 in
theorem gX1_figureAt_X1_at : GoodIn wsX1_figureAt (wsV RX1 19 RX1 yX1_at wsX1_at) := goodIn_app (goodIn_of _ (by decide +kernel)) ggX1_figureAt_X1_at
theorem dX1_figureAt_0 : decode cX1_figureAt 0 = .ok (.aload_n 0, 1) := by decide +kernel
theorem dX1_figureAt_1 : decode cX1_figureAt 1 = .ok (.iload_n 1, 1) := by decide +kernel
theorem dX1_figureAt_2 : decode cX1_figureAt 2 = .ok (.invokevirtual 19, 3) := by decide +kernel
theorem dX1_figureAt_5 : decode cX1_figureAt 5 = .ok (.istore_n 2, 1) := by decide +kernel
theorem dX1_figureAt_6 : decode cX1_figureAt 6 = .ok (.iload_n 2, 1) := by decide +kernel
theorem dX1_figureAt_7 : decode cX1_figureAt 7 = .ok (.bipush 48, 2) := by decide +kernel
theorem dX1_figureAt_9 : decode cX1_figureAt 9 = .ok (.if_icmp .lt 16, 3) := by decide +kernel
theorem dX1_figureAt_12 : decode cX1_figureAt 12 = .ok (.iload_n 2, 1) := by decide +kernel
theorem dX1_figureAt_13 : decode cX1_figureAt 13 = .ok (.bipush 57, 2) := by decide +kernel
theorem dX1_figureAt_15 : decode cX1_figureAt 15 = .ok (.if_icmp .gt 10, 3) := by decide +kernel
theorem dX1_figureAt_18 : decode cX1_figureAt 18 = .ok (.iload_n 2, 1) := by decide +kernel
theorem dX1_figureAt_19 : decode cX1_figureAt 19 = .ok (.bipush 48, 2) := by decide +kernel
theorem dX1_figureAt_21 : decode cX1_figureAt 21 = .ok (.isub, 1) := by decide +kernel
theorem dX1_figureAt_22 : decode cX1_figureAt 22 = .ok (.goto 4, 3) := by decide +kernel
theorem dX1_figureAt_25 : decode cX1_figureAt 25 = .ok (.iconst (-1), 1) := by decide +kernel
theorem dX1_figureAt_26 : decode cX1_figureAt 26 = .ok (.ireturn, 1) := by decide +kernel
theorem dX2_init_0 : decode cX2_init 0 = .ok (.aload_n 0, 1) := by decide +kernel
theorem dX2_init_1 : decode cX2_init 1 = .ok (.invokespecial 3, 3) := by decide +kernel
theorem dX2_init_4 : decode cX2_init 4 = .ok (.aload_n 0, 1) := by decide +kernel
theorem dX2_init_5 : decode cX2_init 5 = .ok (.bipush 7, 2) := by decide +kernel
theorem dX2_init_7 : decode cX2_init 7 = .ok (.newarray .int, 2) := by decide +kernel
theorem dX2_init_9 : decode cX2_init 9 = .ok (.putfield 9, 3) := by decide +kernel
theorem dX2_init_12 : decode cX2_init 12 = .ok (.aload_n 0, 1) := by decide +kernel
theorem dX2_init_13 : decode cX2_init 13 = .ok (.sipush 128, 3) := by decide +kernel
theorem dX2_init_16 : decode cX2_init 16 = .ok (.newarray .int, 2) := by decide +kernel
theorem dX2_init_18 : decode cX2_init 18 = .ok (.putfield 15, 3) := by decide +kernel
theorem dX2_init_21 : decode cX2_init 21 = .ok (.return_, 1) := by decide +kernel
set_option maxRecDepth 20000 in
theorem ggX2_clear_J7_fill_53178 : GoodIn wsX2_clear wsJ7_fill_53178 := goodIn_r _ [10] (by decide +kernel) (by decide +kernel)
set_option maxRecDepth 20000 in
theorem gX2_clear_J7_fill_53178 : GoodIn wsX2_clear (va_wsS RX2 28 yJ7_fill_53178 wsJ7_fill_53178) := goodIn_app (goodIn_of _ (by decide +kernel)) ggX2_clear_J7_fill_53178
theorem dX2_clear_0 : decode cX2_clear 0 = .ok (.aload_n 0, 1) := by decide +kernel
theorem dX2_clear_1 : decode cX2_clear 1 = .ok (.iload_n 1, 1) := by decide +kernel
theorem dX2_clear_2 : decode cX2_clear 2 = .ok (.bipush 7, 2) := by decide +kernel
theorem dX2_clear_4 : decode cX2_clear 4 = .ok (.invokestatic 18, 3) := by decide +kernel
theorem dX2_clear_7 : decode cX2_clear 7 = .ok (.putfield 24, 3) := by decide +kernel
theorem dX2_clear_10 : decode cX2_clear 10 = .ok (.aload_n 0, 1) := by decide +kernel
theorem dX2_clear_11 : decode cX2_clear 11 = .ok (.getfield 9, 3) := by decide +kernel
theorem dX2_clear_14 : decode cX2_clear 14 = .ok (.iconst 0, 1) := by decide +kernel
theorem dX2_clear_15 : decode cX2_clear 15 = .ok (.invokestatic 28, 3) := by decide +kernel
theorem dX2_clear_18 : decode cX2_clear 18 = .ok (.return_, 1) := by decide +kernel
theorem dX2_link_0 : decode cX2_link 0 = .ok (.iload_n 1, 1) := by decide +kernel
theorem dX2_link_1 : decode cX2_link 1 = .ok (.aload_n 0, 1) := by decide +kernel
theorem dX2_link_2 : decode cX2_link 2 = .ok (.getfield 24, 3) := by decide +kernel
theorem dX2_link_5 : decode cX2_link 5 = .ok (.if_icmp .ge 23, 3) := by decide +kernel
theorem dX2_link_8 : decode cX2_link 8 = .ok (.iload_n 2, 1) := by decide +kernel
theorem dX2_link_9 : decode cX2_link 9 = .ok (.aload_n 0, 1) := by decide +kernel
theorem dX2_link_10 : decode cX2_link 10 = .ok (.getfield 24, 3) := by decide +kernel
theorem dX2_link_13 : decode cX2_link 13 = .ok (.if_icmp .ge 15, 3) := by decide +kernel
theorem dX2_link_16 : decode cX2_link 16 = .ok (.aload_n 0, 1) := by decide +kernel
theorem dX2_link_17 : decode cX2_link 17 = .ok (.getfield 9, 3) := by decide +kernel
theorem dX2_link_20 : decode cX2_link 20 = .ok (.iload_n 1, 1) := by decide +kernel
theorem dX2_link_21 : decode cX2_link 21 = .ok (.dup2, 1) := by decide +kernel
theorem dX2_link_22 : decode cX2_link 22 = .ok (.iaload, 1) := by decide +kernel
theorem dX2_link_23 : decode cX2_link 23 = .ok (.iconst 1, 1) := by decide +kernel
theorem dX2_link_24 : decode cX2_link 24 = .ok (.iload_n 2, 1) := by decide +kernel
theorem dX2_link_25 : decode cX2_link 25 = .ok (.ishl, 1) := by decide +kernel
theorem dX2_link_26 : decode cX2_link 26 = .ok (.ior, 1) := by decide +kernel
theorem dX2_link_27 : decode cX2_link 27 = .ok (.iastore, 1) := by decide +kernel
theorem dX2_link_28 : decode cX2_link 28 = .ok (.return_, 1) := by decide +kernel
theorem dX2_areLinked_0 : decode cX2_areLinked 0 = .ok (.aload_n 0, 1) := by decide +kernel
theorem dX2_areLinked_1 : decode cX2_areLinked 1 = .ok (.getfield 9, 3) := by decide +kernel
theorem dX2_areLinked_4 : decode cX2_areLinked 4 = .ok (.iload_n 1, 1) := by decide +kernel
theorem dX2_areLinked_5 : decode cX2_areLinked 5 = .ok (.iaload, 1) := by decide +kernel
theorem dX2_areLinked_6 : decode cX2_areLinked 6 = .ok (.iload_n 2, 1) := by decide +kernel
theorem dX2_areLinked_7 : decode cX2_areLinked 7 = .ok (.ishr, 1) := by decide +kernel
theorem dX2_areLinked_8 : decode cX2_areLinked 8 = .ok (.iconst 1, 1) := by decide +kernel
theorem dX2_areLinked_9 : decode cX2_areLinked 9 = .ok (.iand, 1) := by decide +kernel
theorem dX2_areLinked_10 : decode cX2_areLinked 10 = .ok (.iconst 1, 1) := by decide +kernel
theorem dX2_areLinked_11 : decode cX2_areLinked 11 = .ok (.if_icmp .ne 7, 3) := by decide +kernel
theorem dX2_areLinked_14 : decode cX2_areLinked 14 = .ok (.iconst 1, 1) := by decide +kernel
theorem dX2_areLinked_15 : decode cX2_areLinked 15 = .ok (.goto 4, 3) := by decide +kernel
theorem dX2_areLinked_18 : decode cX2_areLinked 18 = .ok (.iconst 0, 1) := by decide +kernel
theorem dX2_areLinked_19 : decode cX2_areLinked 19 = .ok (.ireturn, 1) := by decide +kernel
theorem dX2_linkedTo_0 : decode cX2_linkedTo 0 = .ok (.aload_n 0, 1) := by decide +kernel
theorem dX2_linkedTo_1 : decode cX2_linkedTo 1 = .ok (.getfield 9, 3) := by decide +kernel
theorem dX2_linkedTo_4 : decode cX2_linkedTo 4 = .ok (.iload_n 1, 1) := by decide +kernel
theorem dX2_linkedTo_5 : decode cX2_linkedTo 5 = .ok (.iaload, 1) := by decide +kernel
theorem dX2_linkedTo_6 : decode cX2_linkedTo 6 = .ok (.ireturn, 1) := by decide +kernel
set_option maxRecDepth 20000 in
theorem ggX2_steps_X2_linkedToAny : GoodIn wsX2_steps wsX2_linkedToAny := goodIn_r _ [6, 1, 7, 8, 9, 10] (by decide +kernel) (by decide +kernel)
set_option maxRecDepth 20000 in
theorem gX2_steps_X2_linkedToAny : GoodIn wsX2_steps (wsV RX2 34 RX2 yX2_linkedToAny wsX2_linkedToAny) := goodIn_app (goodIn_of _ (by decide +kernel)) ggX2_steps_X2_linkedToAny
theorem dX2_steps_0 : decode cX2_steps 0 = .ok (.iconst 1, 1) := by decide +kernel
theorem dX2_steps_1 : decode cX2_steps 1 = .ok (.iload_n 1, 1) := by decide +kernel
theorem dX2_steps_2 : decode cX2_steps 2 = .ok (.ishl, 1) := by decide +kernel
theorem dX2_steps_3 : decode cX2_steps 3 = .ok (.istore_n 3, 1) := by decide +kernel
theorem dX2_steps_4 : decode cX2_steps 4 = .ok (.iconst 0, 1) := by decide +kernel
theorem dX2_steps_5 : decode cX2_steps 5 = .ok (.istore 4, 2) := by decide +kernel
theorem dX2_steps_7 : decode cX2_steps 7 = .ok (.iload 4, 2) := by decide +kernel
theorem dX2_steps_9 : decode cX2_steps 9 = .ok (.aload_n 0, 1) := by decide +kernel
theorem dX2_steps_10 : decode cX2_steps 10 = .ok (.getfield 24, 3) := by decide +kernel
theorem dX2_steps_13 : decode cX2_steps 13 = .ok (.if_icmp .ge 29, 3) := by decide +kernel
theorem dX2_steps_16 : decode cX2_steps 16 = .ok (.iload_n 3, 1) := by decide +kernel
theorem dX2_steps_17 : decode cX2_steps 17 = .ok (.iload_n 2, 1) := by decide +kernel
theorem dX2_steps_18 : decode cX2_steps 18 = .ok (.ishr, 1) := by decide +kernel
theorem dX2_steps_19 : decode cX2_steps 19 = .ok (.iconst 1, 1) := by decide +kernel
theorem dX2_steps_20 : decode cX2_steps 20 = .ok (.iand, 1) := by decide +kernel
theorem dX2_steps_21 : decode cX2_steps 21 = .ok (.iconst 1, 1) := by decide +kernel
theorem dX2_steps_22 : decode cX2_steps 22 = .ok (.if_icmp .ne 6, 3) := by decide +kernel
theorem dX2_steps_25 : decode cX2_steps 25 = .ok (.iload 4, 2) := by decide +kernel
theorem dX2_steps_27 : decode cX2_steps 27 = .ok (.ireturn, 1) := by decide +kernel
theorem dX2_steps_28 : decode cX2_steps 28 = .ok (.iload_n 3, 1) := by decide +kernel
theorem dX2_steps_29 : decode cX2_steps 29 = .ok (.aload_n 0, 1) := by decide +kernel
theorem dX2_steps_30 : decode cX2_steps 30 = .ok (.iload_n 3, 1) := by decide +kernel
theorem dX2_steps_31 : decode cX2_steps 31 = .ok (.invokevirtual 34, 3) := by decide +kernel
theorem dX2_steps_34 : decode cX2_steps 34 = .ok (.ior, 1) := by decide +kernel
theorem dX2_steps_35 : decode cX2_steps 35 = .ok (.istore_n 3, 1) := by decide +kernel
theorem dX2_steps_36 : decode cX2_steps 36 = .ok (.iinc 4 1, 3) := by decide +kernel
theorem dX2_steps_39 : decode cX2_steps 39 = .ok (.goto (-32), 3) := by decide +kernel
theorem dX2_steps_42 : decode cX2_steps 42 = .ok (.bipush (-4), 2) := by decide +kernel
theorem dX2_steps_44 : decode cX2_steps 44 = .ok (.ireturn, 1) := by decide +kernel
theorem dX2_linkedToAny_0 : decode cX2_linkedToAny 0 = .ok (.iconst 0, 1) := by decide +kernel
theorem dX2_linkedToAny_1 : decode cX2_linkedToAny 1 = .ok (.istore_n 2, 1) := by decide +kernel
theorem dX2_linkedToAny_2 : decode cX2_linkedToAny 2 = .ok (.iconst 0, 1) := by decide +kernel
theorem dX2_linkedToAny_3 : decode cX2_linkedToAny 3 = .ok (.istore_n 3, 1) := by decide +kernel
theorem dX2_linkedToAny_4 : decode cX2_linkedToAny 4 = .ok (.iload_n 3, 1) := by decide +kernel
theorem dX2_linkedToAny_5 : decode cX2_linkedToAny 5 = .ok (.aload_n 0, 1) := by decide +kernel
theorem dX2_linkedToAny_6 : decode cX2_linkedToAny 6 = .ok (.getfield 24, 3) := by decide +kernel
theorem dX2_linkedToAny_9 : decode cX2_linkedToAny 9 = .ok (.if_icmp .ge 27, 3) := by decide +kernel
theorem dX2_linkedToAny_12 : decode cX2_linkedToAny 12 = .ok (.iload_n 1, 1) := by decide +kernel
theorem dX2_linkedToAny_13 : decode cX2_linkedToAny 13 = .ok (.iload_n 3, 1) := by decide +kernel
theorem dX2_linkedToAny_14 : decode cX2_linkedToAny 14 = .ok (.ishr, 1) := by decide +kernel
theorem dX2_linkedToAny_15 : decode cX2_linkedToAny 15 = .ok (.iconst 1, 1) := by decide +kernel
theorem dX2_linkedToAny_16 : decode cX2_linkedToAny 16 = .ok (.iand, 1) := by decide +kernel
theorem dX2_linkedToAny_17 : decode cX2_linkedToAny 17 = .ok (.iconst 1, 1) := by decide +kernel
theorem dX2_linkedToAny_18 : decode cX2_linkedToAny 18 = .ok (.if_icmp .ne 12, 3) := by decide +kernel
theorem dX2_linkedToAny_21 : decode cX2_linkedToAny 21 = .ok (.iload_n 2, 1) := by decide +kernel
theorem dX2_linkedToAny_22 : decode cX2_linkedToAny 22 = .ok (.aload_n 0, 1) := by decide +kernel
theorem dX2_linkedToAny_23 : decode cX2_linkedToAny 23 = .ok (.getfield 9, 3) := by decide +kernel
theorem dX2_linkedToAny_26 : decode cX2_linkedToAny 26 = .ok (.iload_n 3, 1) := by decide +kernel
theorem dX2_linkedToAny_27 : decode cX2_linkedToAny 27 = .ok (.iaload, 1) := by decide +kernel
theorem dX2_linkedToAny_28 : decode cX2_linkedToAny 28 = .ok (.ior, 1) := by decide +kernel
theorem dX2_linkedToAny_29 : decode cX2_linkedToAny 29 = .ok (.istore_n 2, 1) := by decide +kernel
theorem dX2_linkedToAny_30 : decode cX2_linkedToAny 30 = .ok (.iinc 3 1, 3) := by decide +kernel
theorem dX2_linkedToAny_33 : decode cX2_linkedToAny 33 = .ok (.goto (-29), 3) := by decide +kernel
theorem dX2_linkedToAny_36 : decode cX2_linkedToAny 36 = .ok (.iload_n 2, 1) := by decide +kernel
theorem dX2_linkedToAny_37 : decode cX2_linkedToAny 37 = .ok (.ireturn, 1) := by decide +kernel
set_option maxRecDepth 20000 in
theorem ggX2_largestSet_J6_bitCount_0f7a4 : GoodIn wsX2_largestSet wsJ6_bitCount_0f7a4 := goodIn_r _ [5, 6, 7, 8] (by decide +kernel) (by decide +kernel)
set_option maxRecDepth 20000 in
theorem gX2_largestSet_J6_bitCount_0f7a4 : GoodIn wsX2_largestSet (va_wsS RX2 38 yJ6_bitCount_0f7a4 wsJ6_bitCount_0f7a4) := goodIn_app (goodIn_of _ (by decide +kernel)) ggX2_largestSet_J6_bitCount_0f7a4
set_option maxRecDepth 20000 in
theorem ggX2_largestSet_X2_areAllLinked : GoodIn wsX2_largestSet wsX2_areAllLinked := goodIn_r _ [13, 1, 14, 15, 16, 17] (by decide +kernel) (by decide +kernel)
set_option maxRecDepth 20000 in
theorem gX2_largestSet_X2_areAllLinked : GoodIn wsX2_largestSet (wsV RX2 43 RX2 yX2_areAllLinked wsX2_areAllLinked) := goodIn_app (goodIn_of _ (by decide +kernel)) ggX2_largestSet_X2_areAllLinked
theorem dX2_largestSet_0 : decode cX2_largestSet 0 = .ok (.iconst 0, 1) := by decide +kernel
theorem dX2_largestSet_1 : decode cX2_largestSet 1 = .ok (.istore_n 2, 1) := by decide +kernel
theorem dX2_largestSet_2 : decode cX2_largestSet 2 = .ok (.iconst 1, 1) := by decide +kernel
theorem dX2_largestSet_3 : decode cX2_largestSet 3 = .ok (.istore_n 3, 1) := by decide +kernel
theorem dX2_largestSet_4 : decode cX2_largestSet 4 = .ok (.iload_n 3, 1) := by decide +kernel
theorem dX2_largestSet_5 : decode cX2_largestSet 5 = .ok (.iconst 1, 1) := by decide +kernel
theorem dX2_largestSet_6 : decode cX2_largestSet 6 = .ok (.aload_n 0, 1) := by decide +kernel
theorem dX2_largestSet_7 : decode cX2_largestSet 7 = .ok (.getfield 24, 3) := by decide +kernel
theorem dX2_largestSet_10 : decode cX2_largestSet 10 = .ok (.ishl, 1) := by decide +kernel
theorem dX2_largestSet_11 : decode cX2_largestSet 11 = .ok (.if_icmp .ge 50, 3) := by decide +kernel
theorem dX2_largestSet_14 : decode cX2_largestSet 14 = .ok (.iload_n 3, 1) := by decide +kernel
theorem dX2_largestSet_15 : decode cX2_largestSet 15 = .ok (.iload_n 1, 1) := by decide +kernel
theorem dX2_largestSet_16 : decode cX2_largestSet 16 = .ok (.iconst (-1), 1) := by decide +kernel
theorem dX2_largestSet_17 : decode cX2_largestSet 17 = .ok (.ixor, 1) := by decide +kernel
theorem dX2_largestSet_18 : decode cX2_largestSet 18 = .ok (.iand, 1) := by decide +kernel
theorem dX2_largestSet_19 : decode cX2_largestSet 19 = .ok (.ifCond .ne 7, 3) := by decide +kernel
theorem dX2_largestSet_22 : decode cX2_largestSet 22 = .ok (.iconst 1, 1) := by decide +kernel
theorem dX2_largestSet_23 : decode cX2_largestSet 23 = .ok (.goto 4, 3) := by decide +kernel
theorem dX2_largestSet_26 : decode cX2_largestSet 26 = .ok (.iconst 0, 1) := by decide +kernel
theorem dX2_largestSet_27 : decode cX2_largestSet 27 = .ok (.istore 4, 2) := by decide +kernel
theorem dX2_largestSet_29 : decode cX2_largestSet 29 = .ok (.iload 4, 2) := by decide +kernel
theorem dX2_largestSet_31 : decode cX2_largestSet 31 = .ok (.ifCond .eq 24, 3) := by decide +kernel
theorem dX2_largestSet_34 : decode cX2_largestSet 34 = .ok (.iload_n 3, 1) := by decide +kernel
theorem dX2_largestSet_35 : decode cX2_largestSet 35 = .ok (.invokestatic 38, 3) := by decide +kernel
theorem dX2_largestSet_38 : decode cX2_largestSet 38 = .ok (.iload_n 2, 1) := by decide +kernel
theorem dX2_largestSet_39 : decode cX2_largestSet 39 = .ok (.invokestatic 38, 3) := by decide +kernel
theorem dX2_largestSet_42 : decode cX2_largestSet 42 = .ok (.if_icmp .le 13, 3) := by decide +kernel
theorem dX2_largestSet_45 : decode cX2_largestSet 45 = .ok (.aload_n 0, 1) := by decide +kernel
theorem dX2_largestSet_46 : decode cX2_largestSet 46 = .ok (.iload_n 3, 1) := by decide +kernel
theorem dX2_largestSet_47 : decode cX2_largestSet 47 = .ok (.invokevirtual 43, 3) := by decide +kernel
theorem dX2_largestSet_50 : decode cX2_largestSet 50 = .ok (.ifCond .eq 5, 3) := by decide +kernel
theorem dX2_largestSet_53 : decode cX2_largestSet 53 = .ok (.iload_n 3, 1) := by decide +kernel
theorem dX2_largestSet_54 : decode cX2_largestSet 54 = .ok (.istore_n 2, 1) := by decide +kernel
theorem dX2_largestSet_55 : decode cX2_largestSet 55 = .ok (.iinc 3 1, 3) := by decide +kernel
theorem dX2_largestSet_58 : decode cX2_largestSet 58 = .ok (.goto (-54), 3) := by decide +kernel
theorem dX2_largestSet_61 : decode cX2_largestSet 61 = .ok (.iload_n 2, 1) := by decide +kernel
theorem dX2_largestSet_62 : decode cX2_largestSet 62 = .ok (.ireturn, 1) := by decide +kernel
theorem dX2_areAllLinked_0 : decode cX2_areAllLinked 0 = .ok (.iconst 0, 1) := by decide +kernel
theorem dX2_areAllLinked_1 : decode cX2_areAllLinked 1 = .ok (.istore_n 2, 1) := by decide +kernel
theorem dX2_areAllLinked_2 : decode cX2_areAllLinked 2 = .ok (.iload_n 2, 1) := by decide +kernel
theorem dX2_areAllLinked_3 : decode cX2_areAllLinked 3 = .ok (.aload_n 0, 1) := by decide +kernel
theorem dX2_areAllLinked_4 : decode cX2_areAllLinked 4 = .ok (.getfield 24, 3) := by decide +kernel
theorem dX2_areAllLinked_7 : decode cX2_areAllLinked 7 = .ok (.if_icmp .ge 37, 3) := by decide +kernel
theorem dX2_areAllLinked_10 : decode cX2_areAllLinked 10 = .ok (.iload_n 1, 1) := by decide +kernel
theorem dX2_areAllLinked_11 : decode cX2_areAllLinked 11 = .ok (.iconst 1, 1) := by decide +kernel
theorem dX2_areAllLinked_12 : decode cX2_areAllLinked 12 = .ok (.iload_n 2, 1) := by decide +kernel
theorem dX2_areAllLinked_13 : decode cX2_areAllLinked 13 = .ok (.ishl, 1) := by decide +kernel
theorem dX2_areAllLinked_14 : decode cX2_areAllLinked 14 = .ok (.iconst (-1), 1) := by decide +kernel
theorem dX2_areAllLinked_15 : decode cX2_areAllLinked 15 = .ok (.ixor, 1) := by decide +kernel
theorem dX2_areAllLinked_16 : decode cX2_areAllLinked 16 = .ok (.iand, 1) := by decide +kernel
theorem dX2_areAllLinked_17 : decode cX2_areAllLinked 17 = .ok (.istore_n 3, 1) := by decide +kernel
theorem dX2_areAllLinked_18 : decode cX2_areAllLinked 18 = .ok (.iload_n 3, 1) := by decide +kernel
theorem dX2_areAllLinked_19 : decode cX2_areAllLinked 19 = .ok (.iload_n 1, 1) := by decide +kernel
theorem dX2_areAllLinked_20 : decode cX2_areAllLinked 20 = .ok (.if_icmp .eq 18, 3) := by decide +kernel
theorem dX2_areAllLinked_23 : decode cX2_areAllLinked 23 = .ok (.iload_n 3, 1) := by decide +kernel
theorem dX2_areAllLinked_24 : decode cX2_areAllLinked 24 = .ok (.aload_n 0, 1) := by decide +kernel
theorem dX2_areAllLinked_25 : decode cX2_areAllLinked 25 = .ok (.getfield 9, 3) := by decide +kernel
theorem dX2_areAllLinked_28 : decode cX2_areAllLinked 28 = .ok (.iload_n 2, 1) := by decide +kernel
theorem dX2_areAllLinked_29 : decode cX2_areAllLinked 29 = .ok (.iaload, 1) := by decide +kernel
theorem dX2_areAllLinked_30 : decode cX2_areAllLinked 30 = .ok (.iconst (-1), 1) := by decide +kernel
theorem dX2_areAllLinked_31 : decode cX2_areAllLinked 31 = .ok (.ixor, 1) := by decide +kernel
theorem dX2_areAllLinked_32 : decode cX2_areAllLinked 32 = .ok (.iand, 1) := by decide +kernel
theorem dX2_areAllLinked_33 : decode cX2_areAllLinked 33 = .ok (.ifCond .eq 5, 3) := by decide +kernel
theorem dX2_areAllLinked_36 : decode cX2_areAllLinked 36 = .ok (.iconst 0, 1) := by decide +kernel
theorem dX2_areAllLinked_37 : decode cX2_areAllLinked 37 = .ok (.ireturn, 1) := by decide +kernel
theorem dX2_areAllLinked_38 : decode cX2_areAllLinked 38 = .ok (.iinc 2 1, 3) := by decide +kernel
theorem dX2_areAllLinked_41 : decode cX2_areAllLinked 41 = .ok (.goto (-39), 3) := by decide +kernel
theorem dX2_areAllLinked_44 : decode cX2_areAllLinked 44 = .ok (.iconst 1, 1) := by decide +kernel
theorem dX2_areAllLinked_45 : decode cX2_areAllLinked 45 = .ok (.ireturn, 1) := by decide +kernel
set_option maxRecDepth 20000 in
theorem ggX2_mostTwos_X2_mostTwosWithin : GoodIn wsX2_mostTwos wsX2_mostTwosWithin := goodIn_r _ [7, 1, 2, 8, 9, 10, 11, 12, 13, 14, 15, 16, 17, 18, 19, 20, 21, 22] (by decide +kernel) (by decide +kernel)
set_option maxRecDepth 20000 in
theorem gX2_mostTwos_X2_mostTwosWithin : GoodIn wsX2_mostTwos (wsV RX2 47 RX2 yX2_mostTwosWithin wsX2_mostTwosWithin) := goodIn_app (goodIn_of _ (by decide +kernel)) ggX2_mostTwos_X2_mostTwosWithin
theorem dX2_mostTwos_0 : decode cX2_mostTwos 0 = .ok (.aload_n 0, 1) := by decide +kernel
theorem dX2_mostTwos_1 : decode cX2_mostTwos 1 = .ok (.getfield 15, 3) := by decide +kernel
theorem dX2_mostTwos_4 : decode cX2_mostTwos 4 = .ok (.iconst 0, 1) := by decide +kernel
theorem dX2_mostTwos_5 : decode cX2_mostTwos 5 = .ok (.iconst 0, 1) := by decide +kernel
theorem dX2_mostTwos_6 : decode cX2_mostTwos 6 = .ok (.iastore, 1) := by decide +kernel
theorem dX2_mostTwos_7 : decode cX2_mostTwos 7 = .ok (.iconst 1, 1) := by decide +kernel
theorem dX2_mostTwos_8 : decode cX2_mostTwos 8 = .ok (.aload_n 0, 1) := by decide +kernel
theorem dX2_mostTwos_9 : decode cX2_mostTwos 9 = .ok (.getfield 24, 3) := by decide +kernel
theorem dX2_mostTwos_12 : decode cX2_mostTwos 12 = .ok (.ishl, 1) := by decide +kernel
theorem dX2_mostTwos_13 : decode cX2_mostTwos 13 = .ok (.istore_n 1, 1) := by decide +kernel
theorem dX2_mostTwos_14 : decode cX2_mostTwos 14 = .ok (.iconst 1, 1) := by decide +kernel
theorem dX2_mostTwos_15 : decode cX2_mostTwos 15 = .ok (.istore_n 2, 1) := by decide +kernel
theorem dX2_mostTwos_16 : decode cX2_mostTwos 16 = .ok (.iload_n 2, 1) := by decide +kernel
theorem dX2_mostTwos_17 : decode cX2_mostTwos 17 = .ok (.iload_n 1, 1) := by decide +kernel
theorem dX2_mostTwos_18 : decode cX2_mostTwos 18 = .ok (.if_icmp .ge 20, 3) := by decide +kernel
theorem dX2_mostTwos_21 : decode cX2_mostTwos 21 = .ok (.aload_n 0, 1) := by decide +kernel
theorem dX2_mostTwos_22 : decode cX2_mostTwos 22 = .ok (.getfield 15, 3) := by decide +kernel
theorem dX2_mostTwos_25 : decode cX2_mostTwos 25 = .ok (.iload_n 2, 1) := by decide +kernel
theorem dX2_mostTwos_26 : decode cX2_mostTwos 26 = .ok (.aload_n 0, 1) := by decide +kernel
theorem dX2_mostTwos_27 : decode cX2_mostTwos 27 = .ok (.iload_n 2, 1) := by decide +kernel
theorem dX2_mostTwos_28 : decode cX2_mostTwos 28 = .ok (.invokevirtual 47, 3) := by decide +kernel
theorem dX2_mostTwos_31 : decode cX2_mostTwos 31 = .ok (.iastore, 1) := by decide +kernel
theorem dX2_mostTwos_32 : decode cX2_mostTwos 32 = .ok (.iinc 2 1, 3) := by decide +kernel
theorem dX2_mostTwos_35 : decode cX2_mostTwos 35 = .ok (.goto (-19), 3) := by decide +kernel
theorem dX2_mostTwos_38 : decode cX2_mostTwos 38 = .ok (.aload_n 0, 1) := by decide +kernel
theorem dX2_mostTwos_39 : decode cX2_mostTwos 39 = .ok (.getfield 15, 3) := by decide +kernel
theorem dX2_mostTwos_42 : decode cX2_mostTwos 42 = .ok (.iload_n 1, 1) := by decide +kernel
theorem dX2_mostTwos_43 : decode cX2_mostTwos 43 = .ok (.iconst 1, 1) := by decide +kernel
theorem dX2_mostTwos_44 : decode cX2_mostTwos 44 = .ok (.isub, 1) := by decide +kernel
theorem dX2_mostTwos_45 : decode cX2_mostTwos 45 = .ok (.iaload, 1) := by decide +kernel
theorem dX2_mostTwos_46 : decode cX2_mostTwos 46 = .ok (.ireturn, 1) := by decide +kernel
set_option maxRecDepth 20000 in
theorem ggX2_mostTwosWithin_J6_bitCount_0f7a4 : GoodIn wsX2_mostTwosWithin wsJ6_bitCount_0f7a4 := goodIn_r _ [11, 12, 13, 14] (by decide +kernel) (by decide +kernel)
set_option maxRecDepth 20000 in
theorem gX2_mostTwosWithin_J6_bitCount_0f7a4 : GoodIn wsX2_mostTwosWithin (va_wsS RX2 38 yJ6_bitCount_0f7a4 wsJ6_bitCount_0f7a4) := goodIn_app (goodIn_of _ (by decide +kernel)) ggX2_mostTwosWithin_J6_bitCount_0f7a4
theorem dX2_mostTwosWithin_0 : decode cX2_mostTwosWithin 0 = .ok (.iload_n 1, 1) := by decide +kernel
theorem dX2_mostTwosWithin_1 : decode cX2_mostTwosWithin 1 = .ok (.iload_n 1, 1) := by decide +kernel
theorem dX2_mostTwosWithin_2 : decode cX2_mostTwosWithin 2 = .ok (.ineg, 1) := by decide +kernel
theorem dX2_mostTwosWithin_3 : decode cX2_mostTwosWithin 3 = .ok (.iand, 1) := by decide +kernel
theorem dX2_mostTwosWithin_4 : decode cX2_mostTwosWithin 4 = .ok (.iconst 1, 1) := by decide +kernel
theorem dX2_mostTwosWithin_5 : decode cX2_mostTwosWithin 5 = .ok (.isub, 1) := by decide +kernel
theorem dX2_mostTwosWithin_6 : decode cX2_mostTwosWithin 6 = .ok (.invokestatic 38, 3) := by decide +kernel
theorem dX2_mostTwosWithin_9 : decode cX2_mostTwosWithin 9 = .ok (.istore_n 2, 1) := by decide +kernel
theorem dX2_mostTwosWithin_10 : decode cX2_mostTwosWithin 10 = .ok (.iload_n 1, 1) := by decide +kernel
theorem dX2_mostTwosWithin_11 : decode cX2_mostTwosWithin 11 = .ok (.iconst 1, 1) := by decide +kernel
theorem dX2_mostTwosWithin_12 : decode cX2_mostTwosWithin 12 = .ok (.iload_n 2, 1) := by decide +kernel
theorem dX2_mostTwosWithin_13 : decode cX2_mostTwosWithin 13 = .ok (.ishl, 1) := by decide +kernel
theorem dX2_mostTwosWithin_14 : decode cX2_mostTwosWithin 14 = .ok (.iconst (-1), 1) := by decide +kernel
theorem dX2_mostTwosWithin_15 : decode cX2_mostTwosWithin 15 = .ok (.ixor, 1) := by decide +kernel
theorem dX2_mostTwosWithin_16 : decode cX2_mostTwosWithin 16 = .ok (.iand, 1) := by decide +kernel
theorem dX2_mostTwosWithin_17 : decode cX2_mostTwosWithin 17 = .ok (.istore_n 3, 1) := by decide +kernel
theorem dX2_mostTwosWithin_18 : decode cX2_mostTwosWithin 18 = .ok (.aload_n 0, 1) := by decide +kernel
theorem dX2_mostTwosWithin_19 : decode cX2_mostTwosWithin 19 = .ok (.getfield 15, 3) := by decide +kernel
theorem dX2_mostTwosWithin_22 : decode cX2_mostTwosWithin 22 = .ok (.iload_n 3, 1) := by decide +kernel
theorem dX2_mostTwosWithin_23 : decode cX2_mostTwosWithin 23 = .ok (.iaload, 1) := by decide +kernel
theorem dX2_mostTwosWithin_24 : decode cX2_mostTwosWithin 24 = .ok (.istore 4, 2) := by decide +kernel
theorem dX2_mostTwosWithin_26 : decode cX2_mostTwosWithin 26 = .ok (.iload_n 2, 1) := by decide +kernel
theorem dX2_mostTwosWithin_27 : decode cX2_mostTwosWithin 27 = .ok (.iconst 1, 1) := by decide +kernel
theorem dX2_mostTwosWithin_28 : decode cX2_mostTwosWithin 28 = .ok (.iadd, 1) := by decide +kernel
theorem dX2_mostTwosWithin_29 : decode cX2_mostTwosWithin 29 = .ok (.istore 5, 2) := by decide +kernel
theorem dX2_mostTwosWithin_31 : decode cX2_mostTwosWithin 31 = .ok (.iload 5, 2) := by decide +kernel
theorem dX2_mostTwosWithin_33 : decode cX2_mostTwosWithin 33 = .ok (.aload_n 0, 1) := by decide +kernel
theorem dX2_mostTwosWithin_34 : decode cX2_mostTwosWithin 34 = .ok (.getfield 24, 3) := by decide +kernel
theorem dX2_mostTwosWithin_37 : decode cX2_mostTwosWithin 37 = .ok (.if_icmp .ge 47, 3) := by decide +kernel
theorem dX2_mostTwosWithin_40 : decode cX2_mostTwosWithin 40 = .ok (.iload_n 3, 1) := by decide +kernel
theorem dX2_mostTwosWithin_41 : decode cX2_mostTwosWithin 41 = .ok (.aload_n 0, 1) := by decide +kernel
theorem dX2_mostTwosWithin_42 : decode cX2_mostTwosWithin 42 = .ok (.getfield 9, 3) := by decide +kernel
theorem dX2_mostTwosWithin_45 : decode cX2_mostTwosWithin 45 = .ok (.iload_n 2, 1) := by decide +kernel
theorem dX2_mostTwosWithin_46 : decode cX2_mostTwosWithin 46 = .ok (.iaload, 1) := by decide +kernel
theorem dX2_mostTwosWithin_47 : decode cX2_mostTwosWithin 47 = .ok (.iand, 1) := by decide +kernel
theorem dX2_mostTwosWithin_48 : decode cX2_mostTwosWithin 48 = .ok (.iconst 1, 1) := by decide +kernel
theorem dX2_mostTwosWithin_49 : decode cX2_mostTwosWithin 49 = .ok (.iload 5, 2) := by decide +kernel
theorem dX2_mostTwosWithin_51 : decode cX2_mostTwosWithin 51 = .ok (.ishl, 1) := by decide +kernel
theorem dX2_mostTwosWithin_52 : decode cX2_mostTwosWithin 52 = .ok (.iand, 1) := by decide +kernel
theorem dX2_mostTwosWithin_53 : decode cX2_mostTwosWithin 53 = .ok (.ifCond .eq 25, 3) := by decide +kernel
theorem dX2_mostTwosWithin_56 : decode cX2_mostTwosWithin 56 = .ok (.iload 4, 2) := by decide +kernel
theorem dX2_mostTwosWithin_58 : decode cX2_mostTwosWithin 58 = .ok (.iconst 1, 1) := by decide +kernel
theorem dX2_mostTwosWithin_59 : decode cX2_mostTwosWithin 59 = .ok (.aload_n 0, 1) := by decide +kernel
theorem dX2_mostTwosWithin_60 : decode cX2_mostTwosWithin 60 = .ok (.getfield 15, 3) := by decide +kernel
theorem dX2_mostTwosWithin_63 : decode cX2_mostTwosWithin 63 = .ok (.iload_n 3, 1) := by decide +kernel
theorem dX2_mostTwosWithin_64 : decode cX2_mostTwosWithin 64 = .ok (.iconst 1, 1) := by decide +kernel
theorem dX2_mostTwosWithin_65 : decode cX2_mostTwosWithin 65 = .ok (.iload 5, 2) := by decide +kernel
theorem dX2_mostTwosWithin_67 : decode cX2_mostTwosWithin 67 = .ok (.ishl, 1) := by decide +kernel
theorem dX2_mostTwosWithin_68 : decode cX2_mostTwosWithin 68 = .ok (.iconst (-1), 1) := by decide +kernel
theorem dX2_mostTwosWithin_69 : decode cX2_mostTwosWithin 69 = .ok (.ixor, 1) := by decide +kernel
theorem dX2_mostTwosWithin_70 : decode cX2_mostTwosWithin 70 = .ok (.iand, 1) := by decide +kernel
theorem dX2_mostTwosWithin_71 : decode cX2_mostTwosWithin 71 = .ok (.iaload, 1) := by decide +kernel
theorem dX2_mostTwosWithin_72 : decode cX2_mostTwosWithin 72 = .ok (.iadd, 1) := by decide +kernel
theorem dX2_mostTwosWithin_73 : decode cX2_mostTwosWithin 73 = .ok (.invokestatic 50, 3) := by decide +kernel
theorem dX2_mostTwosWithin_76 : decode cX2_mostTwosWithin 76 = .ok (.istore 4, 2) := by decide +kernel
theorem dX2_mostTwosWithin_78 : decode cX2_mostTwosWithin 78 = .ok (.iinc 5 1, 3) := by decide +kernel
theorem dX2_mostTwosWithin_81 : decode cX2_mostTwosWithin 81 = .ok (.goto (-50), 3) := by decide +kernel
theorem dX2_mostTwosWithin_84 : decode cX2_mostTwosWithin 84 = .ok (.iload 4, 2) := by decide +kernel
theorem dX2_mostTwosWithin_86 : decode cX2_mostTwosWithin 86 = .ok (.ireturn, 1) := by decide +kernel
theorem dX3_init_0 : decode cX3_init 0 = .ok (.aload_n 0, 1) := by decide +kernel
theorem dX3_init_1 : decode cX3_init 1 = .ok (.invokespecial 3, 3) := by decide +kernel
theorem dX3_init_4 : decode cX3_init 4 = .ok (.aload_n 0, 1) := by decide +kernel
theorem dX3_init_5 : decode cX3_init 5 = .ok (.iconst 3, 1) := by decide +kernel
theorem dX3_init_6 : decode cX3_init 6 = .ok (.newarray .int, 2) := by decide +kernel
theorem dX3_init_8 : decode cX3_init 8 = .ok (.putfield 11, 3) := by decide +kernel
theorem dX3_init_11 : decode cX3_init 11 = .ok (.return_, 1) := by decide +kernel
set_option maxRecDepth 20000 in
theorem ggX3_readTown_X4_clear : GoodIn wsX3_readTown wsX4_clear := goodIn_r _ [5, 6, 7, 8, 9, 10, 11, 12, 13, 14, 15, 75, 76, 77, 78, 79, 80, 81, 82] (by decide +kernel) (by decide +kernel)
set_option maxRecDepth 20000 in
theorem gX3_readTown_X4_clear : GoodIn wsX3_readTown (wsV RX3 15 RX4 yX4_clear wsX4_clear) := goodIn_app (goodIn_of _ (by decide +kernel)) ggX3_readTown_X4_clear
set_option maxRecDepth 20000 in
theorem ggX3_readTown_X1_length : GoodIn wsX3_readTown wsX1_length := goodIn_r _ [20, 21, 83, 84] (by decide +kernel) (by decide +kernel)
set_option maxRecDepth 20000 in
theorem gX3_readTown_X1_length : GoodIn wsX3_readTown (wsV RX3 20 RX1 yX1_length wsX1_length) := goodIn_app (goodIn_of _ (by decide +kernel)) ggX3_readTown_X1_length
set_option maxRecDepth 20000 in
theorem ggX3_readTown_X3_readItem : GoodIn wsX3_readTown wsX3_readItem := goodIn_r _ [26, 27, 28, 29, 19, 30, 21, 31, 32, 33, 25, 34, 35, 36, 37, 38, 39, 40, 41, 42, 43, 44, 45, 46, 47, 48, 49, 50, 51, 4, 52, 6, 53, 54, 55, 56, 57, 58, 9, 59, 60, 61, 62, 63, 64, 65, 66, 11, 10, 67, 68, 69, 70, 71, 72, 73, 74, 8, 83, 84, 85, 75, 76, 77, 78, 79, 80, 81, 82] (by decide +kernel) (by decide +kernel)
set_option maxRecDepth 20000 in
theorem gX3_readTown_X3_readItem : GoodIn wsX3_readTown (wsV RX3 26 RX3 yX3_readItem wsX3_readItem) := goodIn_app (goodIn_of _ (by decide +kernel)) ggX3_readTown_X3_readItem
theorem dX3_readTown_0 : decode cX3_readTown 0 = .ok (.aload_n 2, 1) := by decide +kernel
theorem dX3_readTown_1 : decode cX3_readTown 1 = .ok (.invokevirtual 15, 3) := by decide +kernel
theorem dX3_readTown_4 : decode cX3_readTown 4 = .ok (.iconst 0, 1) := by decide +kernel
theorem dX3_readTown_5 : decode cX3_readTown 5 = .ok (.istore_n 3, 1) := by decide +kernel
theorem dX3_readTown_6 : decode cX3_readTown 6 = .ok (.iconst 0, 1) := by decide +kernel
theorem dX3_readTown_7 : decode cX3_readTown 7 = .ok (.istore 4, 2) := by decide +kernel
theorem dX3_readTown_9 : decode cX3_readTown 9 = .ok (.iload 4, 2) := by decide +kernel
theorem dX3_readTown_11 : decode cX3_readTown 11 = .ok (.sipush 200, 3) := by decide +kernel
theorem dX3_readTown_14 : decode cX3_readTown 14 = .ok (.if_icmp .ge 37, 3) := by decide +kernel
theorem dX3_readTown_17 : decode cX3_readTown 17 = .ok (.iload_n 3, 1) := by decide +kernel
theorem dX3_readTown_18 : decode cX3_readTown 18 = .ok (.aload_n 1, 1) := by decide +kernel
theorem dX3_readTown_19 : decode cX3_readTown 19 = .ok (.invokevirtual 20, 3) := by decide +kernel
theorem dX3_readTown_22 : decode cX3_readTown 22 = .ok (.if_icmp .ge 29, 3) := by decide +kernel
theorem dX3_readTown_25 : decode cX3_readTown 25 = .ok (.aload_n 0, 1) := by decide +kernel
theorem dX3_readTown_26 : decode cX3_readTown 26 = .ok (.aload_n 1, 1) := by decide +kernel
theorem dX3_readTown_27 : decode cX3_readTown 27 = .ok (.iload_n 3, 1) := by decide +kernel
theorem dX3_readTown_28 : decode cX3_readTown 28 = .ok (.aload_n 2, 1) := by decide +kernel
theorem dX3_readTown_29 : decode cX3_readTown 29 = .ok (.invokevirtual 26, 3) := by decide +kernel
theorem dX3_readTown_32 : decode cX3_readTown 32 = .ok (.istore 5, 2) := by decide +kernel
theorem dX3_readTown_34 : decode cX3_readTown 34 = .ok (.iload 5, 2) := by decide +kernel
theorem dX3_readTown_36 : decode cX3_readTown 36 = .ok (.iconst (-1), 1) := by decide +kernel
theorem dX3_readTown_37 : decode cX3_readTown 37 = .ok (.if_icmp .ne 5, 3) := by decide +kernel
theorem dX3_readTown_40 : decode cX3_readTown 40 = .ok (.iload_n 3, 1) := by decide +kernel
theorem dX3_readTown_41 : decode cX3_readTown 41 = .ok (.ireturn, 1) := by decide +kernel
theorem dX3_readTown_42 : decode cX3_readTown 42 = .ok (.iload 5, 2) := by decide +kernel
theorem dX3_readTown_44 : decode cX3_readTown 44 = .ok (.istore_n 3, 1) := by decide +kernel
theorem dX3_readTown_45 : decode cX3_readTown 45 = .ok (.iinc 4 1, 3) := by decide +kernel
theorem dX3_readTown_48 : decode cX3_readTown 48 = .ok (.goto (-39), 3) := by decide +kernel
theorem dX3_readTown_51 : decode cX3_readTown 51 = .ok (.bipush (-4), 2) := by decide +kernel
theorem dX3_readTown_53 : decode cX3_readTown 53 = .ok (.ireturn, 1) := by decide +kernel
set_option maxRecDepth 20000 in
theorem ggX3_readItem_X1_at : GoodIn wsX3_readItem wsX1_at := goodIn_r _ [5, 6, 7, 58, 59] (by decide +kernel) (by decide +kernel)
set_option maxRecDepth 20000 in
theorem gX3_readItem_X1_at : GoodIn wsX3_readItem (wsV RX3 30 RX1 yX1_at wsX1_at) := goodIn_app (goodIn_of _ (by decide +kernel)) ggX3_readItem_X1_at
set_option maxRecDepth 20000 in
theorem ggX3_readItem_X3_numbersBehind : GoodIn wsX3_readItem wsX3_numbersBehind := goodIn_r _ [11] (by decide +kernel) (by decide +kernel)
set_option maxRecDepth 20000 in
theorem gX3_readItem_X3_numbersBehind : GoodIn wsX3_readItem (va_wsS RX3 34 yX3_numbersBehind wsX3_numbersBehind) := goodIn_app (goodIn_of _ (by decide +kernel)) ggX3_readItem_X3_numbersBehind
set_option maxRecDepth 20000 in
theorem ggX3_readItem_X3_readNumbers : GoodIn wsX3_readItem wsX3_readNumbers := goodIn_r _ [15, 16, 17, 18, 19, 4, 20, 21, 2, 3, 5, 6, 7, 1, 60, 58, 59] (by decide +kernel) (by decide +kernel)
set_option maxRecDepth 20000 in
theorem gX3_readItem_X3_readNumbers : GoodIn wsX3_readItem (wsV RX3 37 RX3 yX3_readNumbers wsX3_readNumbers) := goodIn_app (goodIn_of _ (by decide +kernel)) ggX3_readItem_X3_readNumbers
set_option maxRecDepth 20000 in
theorem ggX3_readItem_X3_takePerson : GoodIn wsX3_readItem wsX3_takePerson := goodIn_r _ [25, 16, 26, 27, 28, 29, 30, 31, 32, 33, 34, 35, 36, 37, 38, 60, 61, 62, 63, 64, 65, 66, 67, 68] (by decide +kernel) (by decide +kernel)
set_option maxRecDepth 20000 in
theorem gX3_readItem_X3_takePerson : GoodIn wsX3_readItem (wsV RX3 41 RX3 yX3_takePerson wsX3_takePerson) := goodIn_app (goodIn_of _ (by decide +kernel)) ggX3_readItem_X3_takePerson
set_option maxRecDepth 20000 in
theorem ggX3_readItem_X3_takeDebt : GoodIn wsX3_readItem wsX3_takeDebt := goodIn_r _ [42, 16, 26, 27, 28, 29, 30, 31, 43, 44, 45, 46, 47, 48, 60, 61, 62, 63, 64, 65, 66, 67, 68] (by decide +kernel) (by decide +kernel)
set_option maxRecDepth 20000 in
theorem gX3_readItem_X3_takeDebt : GoodIn wsX3_readItem (wsV RX3 45 RX3 yX3_takeDebt wsX3_takeDebt) := goodIn_app (goodIn_of _ (by decide +kernel)) ggX3_readItem_X3_takeDebt
set_option maxRecDepth 20000 in
theorem ggX3_readItem_X3_takeEaster : GoodIn wsX3_readItem wsX3_takeEaster := goodIn_r _ [52, 16, 53, 54, 55, 29, 56, 57, 60, 61, 62, 63, 64, 65, 66, 67, 68] (by decide +kernel) (by decide +kernel)
set_option maxRecDepth 20000 in
theorem gX3_readItem_X3_takeEaster : GoodIn wsX3_readItem (wsV RX3 48 RX3 yX3_takeEaster wsX3_takeEaster) := goodIn_app (goodIn_of _ (by decide +kernel)) ggX3_readItem_X3_takeEaster
theorem dX3_readItem_0 : decode cX3_readItem 0 = .ok (.aload_n 1, 1) := by decide +kernel
theorem dX3_readItem_1 : decode cX3_readItem 1 = .ok (.iload_n 2, 1) := by decide +kernel
theorem dX3_readItem_2 : decode cX3_readItem 2 = .ok (.invokevirtual 30, 3) := by decide +kernel
theorem dX3_readItem_5 : decode cX3_readItem 5 = .ok (.istore 4, 2) := by decide +kernel
theorem dX3_readItem_7 : decode cX3_readItem 7 = .ok (.aload_n 0, 1) := by decide +kernel
theorem dX3_readItem_8 : decode cX3_readItem 8 = .ok (.aload_n 1, 1) := by decide +kernel
theorem dX3_readItem_9 : decode cX3_readItem 9 = .ok (.iload_n 2, 1) := by decide +kernel
theorem dX3_readItem_10 : decode cX3_readItem 10 = .ok (.iconst 1, 1) := by decide +kernel
theorem dX3_readItem_11 : decode cX3_readItem 11 = .ok (.iadd, 1) := by decide +kernel
theorem dX3_readItem_12 : decode cX3_readItem 12 = .ok (.iload 4, 2) := by decide +kernel
theorem dX3_readItem_14 : decode cX3_readItem 14 = .ok (.invokestatic 34, 3) := by decide +kernel
theorem dX3_readItem_17 : decode cX3_readItem 17 = .ok (.invokevirtual 37, 3) := by decide +kernel
theorem dX3_readItem_20 : decode cX3_readItem 20 = .ok (.istore 5, 2) := by decide +kernel
theorem dX3_readItem_22 : decode cX3_readItem 22 = .ok (.iload 5, 2) := by decide +kernel
theorem dX3_readItem_24 : decode cX3_readItem 24 = .ok (.iconst (-1), 1) := by decide +kernel
theorem dX3_readItem_25 : decode cX3_readItem 25 = .ok (.if_icmp .ne 5, 3) := by decide +kernel
theorem dX3_readItem_28 : decode cX3_readItem 28 = .ok (.iconst (-1), 1) := by decide +kernel
theorem dX3_readItem_29 : decode cX3_readItem 29 = .ok (.ireturn, 1) := by decide +kernel
theorem dX3_readItem_30 : decode cX3_readItem 30 = .ok (.iload 4, 2) := by decide +kernel
theorem dX3_readItem_32 : decode cX3_readItem 32 = .ok (.lookupswitch 81 #[(101, 66), (111, 51), (112, 36)], 36) := by decide +kernel
theorem dX3_readItem_68 : decode cX3_readItem 68 = .ok (.aload_n 0, 1) := by decide +kernel
theorem dX3_readItem_69 : decode cX3_readItem 69 = .ok (.aload_n 3, 1) := by decide +kernel
theorem dX3_readItem_70 : decode cX3_readItem 70 = .ok (.invokevirtual 41, 3) := by decide +kernel
theorem dX3_readItem_73 : decode cX3_readItem 73 = .ok (.ifCond .eq 8, 3) := by decide +kernel
theorem dX3_readItem_76 : decode cX3_readItem 76 = .ok (.iload 5, 2) := by decide +kernel
theorem dX3_readItem_78 : decode cX3_readItem 78 = .ok (.goto 4, 3) := by decide +kernel
theorem dX3_readItem_81 : decode cX3_readItem 81 = .ok (.iconst (-1), 1) := by decide +kernel
theorem dX3_readItem_82 : decode cX3_readItem 82 = .ok (.ireturn, 1) := by decide +kernel
theorem dX3_readItem_83 : decode cX3_readItem 83 = .ok (.aload_n 0, 1) := by decide +kernel
theorem dX3_readItem_84 : decode cX3_readItem 84 = .ok (.aload_n 3, 1) := by decide +kernel
theorem dX3_readItem_85 : decode cX3_readItem 85 = .ok (.invokevirtual 45, 3) := by decide +kernel
theorem dX3_readItem_88 : decode cX3_readItem 88 = .ok (.ifCond .eq 8, 3) := by decide +kernel
theorem dX3_readItem_91 : decode cX3_readItem 91 = .ok (.iload 5, 2) := by decide +kernel
theorem dX3_readItem_93 : decode cX3_readItem 93 = .ok (.goto 4, 3) := by decide +kernel
theorem dX3_readItem_96 : decode cX3_readItem 96 = .ok (.iconst (-1), 1) := by decide +kernel
theorem dX3_readItem_97 : decode cX3_readItem 97 = .ok (.ireturn, 1) := by decide +kernel
theorem dX3_readItem_98 : decode cX3_readItem 98 = .ok (.aload_n 0, 1) := by decide +kernel
theorem dX3_readItem_99 : decode cX3_readItem 99 = .ok (.aload_n 3, 1) := by decide +kernel
theorem dX3_readItem_100 : decode cX3_readItem 100 = .ok (.invokevirtual 48, 3) := by decide +kernel
theorem dX3_readItem_103 : decode cX3_readItem 103 = .ok (.ifCond .eq 8, 3) := by decide +kernel
theorem dX3_readItem_106 : decode cX3_readItem 106 = .ok (.iload 5, 2) := by decide +kernel
theorem dX3_readItem_108 : decode cX3_readItem 108 = .ok (.goto 4, 3) := by decide +kernel
theorem dX3_readItem_111 : decode cX3_readItem 111 = .ok (.iconst (-1), 1) := by decide +kernel
theorem dX3_readItem_112 : decode cX3_readItem 112 = .ok (.ireturn, 1) := by decide +kernel
theorem dX3_readItem_113 : decode cX3_readItem 113 = .ok (.iconst (-1), 1) := by decide +kernel
theorem dX3_readItem_114 : decode cX3_readItem 114 = .ok (.ireturn, 1) := by decide +kernel
theorem dX3_numbersBehind_0 : decode cX3_numbersBehind 0 = .ok (.iload_n 0, 1) := by decide +kernel
theorem dX3_numbersBehind_1 : decode cX3_numbersBehind 1 = .ok (.lookupswitch 41 #[(101, 39), (111, 37), (112, 35)], 35) := by decide +kernel
theorem dX3_numbersBehind_36 : decode cX3_numbersBehind 36 = .ok (.iconst 2, 1) := by decide +kernel
theorem dX3_numbersBehind_37 : decode cX3_numbersBehind 37 = .ok (.ireturn, 1) := by decide +kernel
theorem dX3_numbersBehind_38 : decode cX3_numbersBehind 38 = .ok (.iconst 3, 1) := by decide +kernel
theorem dX3_numbersBehind_39 : decode cX3_numbersBehind 39 = .ok (.ireturn, 1) := by decide +kernel
theorem dX3_numbersBehind_40 : decode cX3_numbersBehind 40 = .ok (.iconst 1, 1) := by decide +kernel
theorem dX3_numbersBehind_41 : decode cX3_numbersBehind 41 = .ok (.ireturn, 1) := by decide +kernel
theorem dX3_numbersBehind_42 : decode cX3_numbersBehind 42 = .ok (.iconst 0, 1) := by decide +kernel
theorem dX3_numbersBehind_43 : decode cX3_numbersBehind 43 = .ok (.ireturn, 1) := by decide +kernel
set_option maxRecDepth 20000 in
theorem ggX3_readNumbers_X1_figureAt : GoodIn wsX3_readNumbers wsX1_figureAt := goodIn_r _ [6, 7, 8, 9, 5, 10, 11, 12, 15, 16] (by decide +kernel) (by decide +kernel)
set_option maxRecDepth 20000 in
theorem gX3_readNumbers_X1_figureAt : GoodIn wsX3_readNumbers (wsV RX3 51 RX1 yX1_figureAt wsX1_figureAt) := goodIn_app (goodIn_of _ (by decide +kernel)) ggX3_readNumbers_X1_figureAt
set_option maxRecDepth 20000 in
theorem ggX3_readNumbers_X1_at : GoodIn wsX3_readNumbers wsX1_at := goodIn_r _ [10, 11, 12, 15, 16] (by decide +kernel) (by decide +kernel)
set_option maxRecDepth 20000 in
theorem gX3_readNumbers_X1_at : GoodIn wsX3_readNumbers (wsV RX3 30 RX1 yX1_at wsX1_at) := goodIn_app (goodIn_of _ (by decide +kernel)) ggX3_readNumbers_X1_at
theorem dX3_readNumbers_0 : decode cX3_readNumbers 0 = .ok (.iload_n 2, 1) := by decide +kernel
theorem dX3_readNumbers_1 : decode cX3_readNumbers 1 = .ok (.istore 4, 2) := by decide +kernel
theorem dX3_readNumbers_3 : decode cX3_readNumbers 3 = .ok (.iconst 0, 1) := by decide +kernel
theorem dX3_readNumbers_4 : decode cX3_readNumbers 4 = .ok (.istore 5, 2) := by decide +kernel
theorem dX3_readNumbers_6 : decode cX3_readNumbers 6 = .ok (.iload 5, 2) := by decide +kernel
theorem dX3_readNumbers_8 : decode cX3_readNumbers 8 = .ok (.iload_n 3, 1) := by decide +kernel
theorem dX3_readNumbers_9 : decode cX3_readNumbers 9 = .ok (.if_icmp .ge 117, 3) := by decide +kernel
theorem dX3_readNumbers_12 : decode cX3_readNumbers 12 = .ok (.iload 5, 2) := by decide +kernel
theorem dX3_readNumbers_14 : decode cX3_readNumbers 14 = .ok (.iconst 3, 1) := by decide +kernel
theorem dX3_readNumbers_15 : decode cX3_readNumbers 15 = .ok (.if_icmp .ge 111, 3) := by decide +kernel
theorem dX3_readNumbers_18 : decode cX3_readNumbers 18 = .ok (.aload_n 1, 1) := by decide +kernel
theorem dX3_readNumbers_19 : decode cX3_readNumbers 19 = .ok (.iload 4, 2) := by decide +kernel
theorem dX3_readNumbers_21 : decode cX3_readNumbers 21 = .ok (.invokevirtual 51, 3) := by decide +kernel
theorem dX3_readNumbers_24 : decode cX3_readNumbers 24 = .ok (.istore 6, 2) := by decide +kernel
theorem dX3_readNumbers_26 : decode cX3_readNumbers 26 = .ok (.aload_n 1, 1) := by decide +kernel
theorem dX3_readNumbers_27 : decode cX3_readNumbers 27 = .ok (.iload 4, 2) := by decide +kernel
theorem dX3_readNumbers_29 : decode cX3_readNumbers 29 = .ok (.iconst 1, 1) := by decide +kernel
theorem dX3_readNumbers_30 : decode cX3_readNumbers 30 = .ok (.iadd, 1) := by decide +kernel
theorem dX3_readNumbers_31 : decode cX3_readNumbers 31 = .ok (.invokevirtual 51, 3) := by decide +kernel
theorem dX3_readNumbers_34 : decode cX3_readNumbers 34 = .ok (.istore 7, 2) := by decide +kernel
theorem dX3_readNumbers_36 : decode cX3_readNumbers 36 = .ok (.iload 4, 2) := by decide +kernel
theorem dX3_readNumbers_38 : decode cX3_readNumbers 38 = .ok (.iload 7, 2) := by decide +kernel
theorem dX3_readNumbers_40 : decode cX3_readNumbers 40 = .ok (.iconst (-1), 1) := by decide +kernel
theorem dX3_readNumbers_41 : decode cX3_readNumbers 41 = .ok (.if_icmp .ne 7, 3) := by decide +kernel
theorem dX3_readNumbers_44 : decode cX3_readNumbers 44 = .ok (.iconst 1, 1) := by decide +kernel
theorem dX3_readNumbers_45 : decode cX3_readNumbers 45 = .ok (.goto 4, 3) := by decide +kernel
theorem dX3_readNumbers_48 : decode cX3_readNumbers 48 = .ok (.iconst 2, 1) := by decide +kernel
theorem dX3_readNumbers_49 : decode cX3_readNumbers 49 = .ok (.iadd, 1) := by decide +kernel
theorem dX3_readNumbers_50 : decode cX3_readNumbers 50 = .ok (.istore 8, 2) := by decide +kernel
theorem dX3_readNumbers_52 : decode cX3_readNumbers 52 = .ok (.iload 5, 2) := by decide +kernel
theorem dX3_readNumbers_54 : decode cX3_readNumbers 54 = .ok (.iconst 1, 1) := by decide +kernel
theorem dX3_readNumbers_55 : decode cX3_readNumbers 55 = .ok (.iadd, 1) := by decide +kernel
theorem dX3_readNumbers_56 : decode cX3_readNumbers 56 = .ok (.iload_n 3, 1) := by decide +kernel
theorem dX3_readNumbers_57 : decode cX3_readNumbers 57 = .ok (.if_icmp .ge 8, 3) := by decide +kernel
theorem dX3_readNumbers_60 : decode cX3_readNumbers 60 = .ok (.bipush 44, 2) := by decide +kernel
theorem dX3_readNumbers_62 : decode cX3_readNumbers 62 = .ok (.goto 5, 3) := by decide +kernel
theorem dX3_readNumbers_65 : decode cX3_readNumbers 65 = .ok (.bipush 59, 2) := by decide +kernel
theorem dX3_readNumbers_67 : decode cX3_readNumbers 67 = .ok (.istore 9, 2) := by decide +kernel
theorem dX3_readNumbers_69 : decode cX3_readNumbers 69 = .ok (.iload 6, 2) := by decide +kernel
theorem dX3_readNumbers_71 : decode cX3_readNumbers 71 = .ok (.iconst (-1), 1) := by decide +kernel
theorem dX3_readNumbers_72 : decode cX3_readNumbers 72 = .ok (.if_icmp .eq 14, 3) := by decide +kernel
theorem dX3_readNumbers_75 : decode cX3_readNumbers 75 = .ok (.aload_n 1, 1) := by decide +kernel
theorem dX3_readNumbers_76 : decode cX3_readNumbers 76 = .ok (.iload 8, 2) := by decide +kernel
theorem dX3_readNumbers_78 : decode cX3_readNumbers 78 = .ok (.invokevirtual 30, 3) := by decide +kernel
theorem dX3_readNumbers_81 : decode cX3_readNumbers 81 = .ok (.iload 9, 2) := by decide +kernel
theorem dX3_readNumbers_83 : decode cX3_readNumbers 83 = .ok (.if_icmp .eq 5, 3) := by decide +kernel
theorem dX3_readNumbers_86 : decode cX3_readNumbers 86 = .ok (.iconst (-1), 1) := by decide +kernel
theorem dX3_readNumbers_87 : decode cX3_readNumbers 87 = .ok (.ireturn, 1) := by decide +kernel
theorem dX3_readNumbers_88 : decode cX3_readNumbers 88 = .ok (.aload_n 0, 1) := by decide +kernel
theorem dX3_readNumbers_89 : decode cX3_readNumbers 89 = .ok (.getfield 11, 3) := by decide +kernel
theorem dX3_readNumbers_92 : decode cX3_readNumbers 92 = .ok (.iload 5, 2) := by decide +kernel
theorem dX3_readNumbers_94 : decode cX3_readNumbers 94 = .ok (.iload 7, 2) := by decide +kernel
theorem dX3_readNumbers_96 : decode cX3_readNumbers 96 = .ok (.iconst (-1), 1) := by decide +kernel
theorem dX3_readNumbers_97 : decode cX3_readNumbers 97 = .ok (.if_icmp .ne 8, 3) := by decide +kernel
theorem dX3_readNumbers_100 : decode cX3_readNumbers 100 = .ok (.iload 6, 2) := by decide +kernel
theorem dX3_readNumbers_102 : decode cX3_readNumbers 102 = .ok (.goto 11, 3) := by decide +kernel
theorem dX3_readNumbers_105 : decode cX3_readNumbers 105 = .ok (.bipush 10, 2) := by decide +kernel
theorem dX3_readNumbers_107 : decode cX3_readNumbers 107 = .ok (.iload 6, 2) := by decide +kernel
theorem dX3_readNumbers_109 : decode cX3_readNumbers 109 = .ok (.imul, 1) := by decide +kernel
theorem dX3_readNumbers_110 : decode cX3_readNumbers 110 = .ok (.iload 7, 2) := by decide +kernel
theorem dX3_readNumbers_112 : decode cX3_readNumbers 112 = .ok (.iadd, 1) := by decide +kernel
theorem dX3_readNumbers_113 : decode cX3_readNumbers 113 = .ok (.iastore, 1) := by decide +kernel
theorem dX3_readNumbers_114 : decode cX3_readNumbers 114 = .ok (.iload 8, 2) := by decide +kernel
theorem dX3_readNumbers_116 : decode cX3_readNumbers 116 = .ok (.iconst 1, 1) := by decide +kernel
theorem dX3_readNumbers_117 : decode cX3_readNumbers 117 = .ok (.iadd, 1) := by decide +kernel
theorem dX3_readNumbers_118 : decode cX3_readNumbers 118 = .ok (.istore 4, 2) := by decide +kernel
theorem dX3_readNumbers_120 : decode cX3_readNumbers 120 = .ok (.iinc 5 1, 3) := by decide +kernel
theorem dX3_readNumbers_123 : decode cX3_readNumbers 123 = .ok (.goto (-117), 3) := by decide +kernel
theorem dX3_readNumbers_126 : decode cX3_readNumbers 126 = .ok (.iload_n 3, 1) := by decide +kernel
theorem dX3_readNumbers_127 : decode cX3_readNumbers 127 = .ok (.ifCond .le 8, 3) := by decide +kernel
theorem dX3_readNumbers_130 : decode cX3_readNumbers 130 = .ok (.iload 4, 2) := by decide +kernel
theorem dX3_readNumbers_132 : decode cX3_readNumbers 132 = .ok (.goto 4, 3) := by decide +kernel
theorem dX3_readNumbers_135 : decode cX3_readNumbers 135 = .ok (.iconst (-1), 1) := by decide +kernel
theorem dX3_readNumbers_136 : decode cX3_readNumbers 136 = .ok (.ireturn, 1) := by decide +kernel
set_option maxRecDepth 20000 in
theorem ggX3_takePerson_X4_persons : GoodIn wsX3_takePerson wsX4_persons := goodIn_r _ [6, 7, 16, 17, 18, 19, 20, 21, 22, 23] (by decide +kernel) (by decide +kernel)
set_option maxRecDepth 20000 in
theorem gX3_takePerson_X4_persons : GoodIn wsX3_takePerson (wsV RX3 54 RX4 yX4_persons wsX4_persons) := goodIn_app (goodIn_of _ (by decide +kernel)) ggX3_takePerson_X4_persons
set_option maxRecDepth 20000 in
theorem ggX3_takePerson_X4_addPerson : GoodIn wsX3_takePerson wsX4_addPerson := goodIn_r _ [11, 7, 12, 13, 14, 16, 17, 18, 19, 20, 21, 22, 23] (by decide +kernel) (by decide +kernel)
set_option maxRecDepth 20000 in
theorem gX3_takePerson_X4_addPerson : GoodIn wsX3_takePerson (wsV RX3 57 RX4 yX4_addPerson wsX4_addPerson) := goodIn_app (goodIn_of _ (by decide +kernel)) ggX3_takePerson_X4_addPerson
theorem dX3_takePerson_0 : decode cX3_takePerson 0 = .ok (.aload_n 0, 1) := by decide +kernel
theorem dX3_takePerson_1 : decode cX3_takePerson 1 = .ok (.getfield 11, 3) := by decide +kernel
theorem dX3_takePerson_4 : decode cX3_takePerson 4 = .ok (.iconst 0, 1) := by decide +kernel
theorem dX3_takePerson_5 : decode cX3_takePerson 5 = .ok (.iaload, 1) := by decide +kernel
theorem dX3_takePerson_6 : decode cX3_takePerson 6 = .ok (.iconst 4, 1) := by decide +kernel
theorem dX3_takePerson_7 : decode cX3_takePerson 7 = .ok (.if_icmp .ge 26, 3) := by decide +kernel
theorem dX3_takePerson_10 : decode cX3_takePerson 10 = .ok (.aload_n 0, 1) := by decide +kernel
theorem dX3_takePerson_11 : decode cX3_takePerson 11 = .ok (.getfield 11, 3) := by decide +kernel
theorem dX3_takePerson_14 : decode cX3_takePerson 14 = .ok (.iconst 1, 1) := by decide +kernel
theorem dX3_takePerson_15 : decode cX3_takePerson 15 = .ok (.iaload, 1) := by decide +kernel
theorem dX3_takePerson_16 : decode cX3_takePerson 16 = .ok (.iconst 4, 1) := by decide +kernel
theorem dX3_takePerson_17 : decode cX3_takePerson 17 = .ok (.if_icmp .ge 16, 3) := by decide +kernel
theorem dX3_takePerson_20 : decode cX3_takePerson 20 = .ok (.aload_n 1, 1) := by decide +kernel
theorem dX3_takePerson_21 : decode cX3_takePerson 21 = .ok (.invokevirtual 54, 3) := by decide +kernel
theorem dX3_takePerson_24 : decode cX3_takePerson 24 = .ok (.bipush 7, 2) := by decide +kernel
theorem dX3_takePerson_26 : decode cX3_takePerson 26 = .ok (.if_icmp .ge 7, 3) := by decide +kernel
theorem dX3_takePerson_29 : decode cX3_takePerson 29 = .ok (.iconst 1, 1) := by decide +kernel
theorem dX3_takePerson_30 : decode cX3_takePerson 30 = .ok (.goto 4, 3) := by decide +kernel
theorem dX3_takePerson_33 : decode cX3_takePerson 33 = .ok (.iconst 0, 1) := by decide +kernel
theorem dX3_takePerson_34 : decode cX3_takePerson 34 = .ok (.istore_n 2, 1) := by decide +kernel
theorem dX3_takePerson_35 : decode cX3_takePerson 35 = .ok (.iload_n 2, 1) := by decide +kernel
theorem dX3_takePerson_36 : decode cX3_takePerson 36 = .ok (.ifCond .eq 19, 3) := by decide +kernel
theorem dX3_takePerson_39 : decode cX3_takePerson 39 = .ok (.aload_n 1, 1) := by decide +kernel
theorem dX3_takePerson_40 : decode cX3_takePerson 40 = .ok (.aload_n 0, 1) := by decide +kernel
theorem dX3_takePerson_41 : decode cX3_takePerson 41 = .ok (.getfield 11, 3) := by decide +kernel
theorem dX3_takePerson_44 : decode cX3_takePerson 44 = .ok (.iconst 0, 1) := by decide +kernel
theorem dX3_takePerson_45 : decode cX3_takePerson 45 = .ok (.iaload, 1) := by decide +kernel
theorem dX3_takePerson_46 : decode cX3_takePerson 46 = .ok (.aload_n 0, 1) := by decide +kernel
theorem dX3_takePerson_47 : decode cX3_takePerson 47 = .ok (.getfield 11, 3) := by decide +kernel
theorem dX3_takePerson_50 : decode cX3_takePerson 50 = .ok (.iconst 1, 1) := by decide +kernel
theorem dX3_takePerson_51 : decode cX3_takePerson 51 = .ok (.iaload, 1) := by decide +kernel
theorem dX3_takePerson_52 : decode cX3_takePerson 52 = .ok (.invokevirtual 57, 3) := by decide +kernel
theorem dX3_takePerson_55 : decode cX3_takePerson 55 = .ok (.iload_n 2, 1) := by decide +kernel
theorem dX3_takePerson_56 : decode cX3_takePerson 56 = .ok (.ireturn, 1) := by decide +kernel
set_option maxRecDepth 20000 in
theorem ggX3_takeDebt_X4_persons : GoodIn wsX3_takeDebt wsX4_persons := goodIn_r _ [6, 7, 15, 16, 17, 18, 19, 20, 21, 22] (by decide +kernel) (by decide +kernel)
set_option maxRecDepth 20000 in
theorem gX3_takeDebt_X4_persons : GoodIn wsX3_takeDebt (wsV RX3 54 RX4 yX4_persons wsX4_persons) := goodIn_app (goodIn_of _ (by decide +kernel)) ggX3_takeDebt_X4_persons
set_option maxRecDepth 20000 in
theorem ggX3_takeDebt_X4_setDebt : GoodIn wsX3_takeDebt wsX4_setDebt := goodIn_r _ [11, 12, 13, 15, 16, 17, 18, 19, 20, 21, 22] (by decide +kernel) (by decide +kernel)
set_option maxRecDepth 20000 in
theorem gX3_takeDebt_X4_setDebt : GoodIn wsX3_takeDebt (wsV RX3 61 RX4 yX4_setDebt wsX4_setDebt) := goodIn_app (goodIn_of _ (by decide +kernel)) ggX3_takeDebt_X4_setDebt
theorem dX3_takeDebt_0 : decode cX3_takeDebt 0 = .ok (.aload_n 0, 1) := by decide +kernel
theorem dX3_takeDebt_1 : decode cX3_takeDebt 1 = .ok (.getfield 11, 3) := by decide +kernel
theorem dX3_takeDebt_4 : decode cX3_takeDebt 4 = .ok (.iconst 0, 1) := by decide +kernel
theorem dX3_takeDebt_5 : decode cX3_takeDebt 5 = .ok (.iaload, 1) := by decide +kernel
theorem dX3_takeDebt_6 : decode cX3_takeDebt 6 = .ok (.istore_n 2, 1) := by decide +kernel
theorem dX3_takeDebt_7 : decode cX3_takeDebt 7 = .ok (.aload_n 0, 1) := by decide +kernel
theorem dX3_takeDebt_8 : decode cX3_takeDebt 8 = .ok (.getfield 11, 3) := by decide +kernel
theorem dX3_takeDebt_11 : decode cX3_takeDebt 11 = .ok (.iconst 1, 1) := by decide +kernel
theorem dX3_takeDebt_12 : decode cX3_takeDebt 12 = .ok (.iaload, 1) := by decide +kernel
theorem dX3_takeDebt_13 : decode cX3_takeDebt 13 = .ok (.istore_n 3, 1) := by decide +kernel
theorem dX3_takeDebt_14 : decode cX3_takeDebt 14 = .ok (.iload_n 2, 1) := by decide +kernel
theorem dX3_takeDebt_15 : decode cX3_takeDebt 15 = .ok (.aload_n 1, 1) := by decide +kernel
theorem dX3_takeDebt_16 : decode cX3_takeDebt 16 = .ok (.invokevirtual 54, 3) := by decide +kernel
theorem dX3_takeDebt_19 : decode cX3_takeDebt 19 = .ok (.if_icmp .ge 31, 3) := by decide +kernel
theorem dX3_takeDebt_22 : decode cX3_takeDebt 22 = .ok (.iload_n 3, 1) := by decide +kernel
theorem dX3_takeDebt_23 : decode cX3_takeDebt 23 = .ok (.aload_n 1, 1) := by decide +kernel
theorem dX3_takeDebt_24 : decode cX3_takeDebt 24 = .ok (.invokevirtual 54, 3) := by decide +kernel
theorem dX3_takeDebt_27 : decode cX3_takeDebt 27 = .ok (.if_icmp .ge 23, 3) := by decide +kernel
theorem dX3_takeDebt_30 : decode cX3_takeDebt 30 = .ok (.iload_n 2, 1) := by decide +kernel
theorem dX3_takeDebt_31 : decode cX3_takeDebt 31 = .ok (.iload_n 3, 1) := by decide +kernel
theorem dX3_takeDebt_32 : decode cX3_takeDebt 32 = .ok (.if_icmp .eq 18, 3) := by decide +kernel
theorem dX3_takeDebt_35 : decode cX3_takeDebt 35 = .ok (.aload_n 0, 1) := by decide +kernel
theorem dX3_takeDebt_36 : decode cX3_takeDebt 36 = .ok (.getfield 11, 3) := by decide +kernel
theorem dX3_takeDebt_39 : decode cX3_takeDebt 39 = .ok (.iconst 2, 1) := by decide +kernel
theorem dX3_takeDebt_40 : decode cX3_takeDebt 40 = .ok (.iaload, 1) := by decide +kernel
theorem dX3_takeDebt_41 : decode cX3_takeDebt 41 = .ok (.bipush 9, 2) := by decide +kernel
theorem dX3_takeDebt_43 : decode cX3_takeDebt 43 = .ok (.if_icmp .gt 7, 3) := by decide +kernel
theorem dX3_takeDebt_46 : decode cX3_takeDebt 46 = .ok (.iconst 1, 1) := by decide +kernel
theorem dX3_takeDebt_47 : decode cX3_takeDebt 47 = .ok (.goto 4, 3) := by decide +kernel
theorem dX3_takeDebt_50 : decode cX3_takeDebt 50 = .ok (.iconst 0, 1) := by decide +kernel
theorem dX3_takeDebt_51 : decode cX3_takeDebt 51 = .ok (.istore 4, 2) := by decide +kernel
theorem dX3_takeDebt_53 : decode cX3_takeDebt 53 = .ok (.iload 4, 2) := by decide +kernel
theorem dX3_takeDebt_55 : decode cX3_takeDebt 55 = .ok (.ifCond .eq 15, 3) := by decide +kernel
theorem dX3_takeDebt_58 : decode cX3_takeDebt 58 = .ok (.aload_n 1, 1) := by decide +kernel
theorem dX3_takeDebt_59 : decode cX3_takeDebt 59 = .ok (.iload_n 2, 1) := by decide +kernel
theorem dX3_takeDebt_60 : decode cX3_takeDebt 60 = .ok (.iload_n 3, 1) := by decide +kernel
theorem dX3_takeDebt_61 : decode cX3_takeDebt 61 = .ok (.aload_n 0, 1) := by decide +kernel
theorem dX3_takeDebt_62 : decode cX3_takeDebt 62 = .ok (.getfield 11, 3) := by decide +kernel
theorem dX3_takeDebt_65 : decode cX3_takeDebt 65 = .ok (.iconst 2, 1) := by decide +kernel
theorem dX3_takeDebt_66 : decode cX3_takeDebt 66 = .ok (.iaload, 1) := by decide +kernel
theorem dX3_takeDebt_67 : decode cX3_takeDebt 67 = .ok (.invokevirtual 61, 3) := by decide +kernel
theorem dX3_takeDebt_70 : decode cX3_takeDebt 70 = .ok (.iload 4, 2) := by decide +kernel
theorem dX3_takeDebt_72 : decode cX3_takeDebt 72 = .ok (.ireturn, 1) := by decide +kernel
set_option maxRecDepth 20000 in
theorem ggX3_takeEaster_X4_setEasterDay : GoodIn wsX3_takeEaster wsX4_setEasterDay := goodIn_r _ [6, 7, 9, 10, 11, 12, 13, 14, 15, 16] (by decide +kernel) (by decide +kernel)
set_option maxRecDepth 20000 in
theorem gX3_takeEaster_X4_setEasterDay : GoodIn wsX3_takeEaster (wsV RX3 65 RX4 yX4_setEasterDay wsX4_setEasterDay) := goodIn_app (goodIn_of _ (by decide +kernel)) ggX3_takeEaster_X4_setEasterDay
theorem dX3_takeEaster_0 : decode cX3_takeEaster 0 = .ok (.aload_n 0, 1) := by decide +kernel
theorem dX3_takeEaster_1 : decode cX3_takeEaster 1 = .ok (.getfield 11, 3) := by decide +kernel
theorem dX3_takeEaster_4 : decode cX3_takeEaster 4 = .ok (.iconst 0, 1) := by decide +kernel
theorem dX3_takeEaster_5 : decode cX3_takeEaster 5 = .ok (.iaload, 1) := by decide +kernel
theorem dX3_takeEaster_6 : decode cX3_takeEaster 6 = .ok (.iconst 1, 1) := by decide +kernel
theorem dX3_takeEaster_7 : decode cX3_takeEaster 7 = .ok (.if_icmp .lt 18, 3) := by decide +kernel
theorem dX3_takeEaster_10 : decode cX3_takeEaster 10 = .ok (.aload_n 0, 1) := by decide +kernel
theorem dX3_takeEaster_11 : decode cX3_takeEaster 11 = .ok (.getfield 11, 3) := by decide +kernel
theorem dX3_takeEaster_14 : decode cX3_takeEaster 14 = .ok (.iconst 0, 1) := by decide +kernel
theorem dX3_takeEaster_15 : decode cX3_takeEaster 15 = .ok (.iaload, 1) := by decide +kernel
theorem dX3_takeEaster_16 : decode cX3_takeEaster 16 = .ok (.bipush 60, 2) := by decide +kernel
theorem dX3_takeEaster_18 : decode cX3_takeEaster 18 = .ok (.if_icmp .gt 7, 3) := by decide +kernel
theorem dX3_takeEaster_21 : decode cX3_takeEaster 21 = .ok (.iconst 1, 1) := by decide +kernel
theorem dX3_takeEaster_22 : decode cX3_takeEaster 22 = .ok (.goto 4, 3) := by decide +kernel
theorem dX3_takeEaster_25 : decode cX3_takeEaster 25 = .ok (.iconst 0, 1) := by decide +kernel
theorem dX3_takeEaster_26 : decode cX3_takeEaster 26 = .ok (.istore_n 2, 1) := by decide +kernel
theorem dX3_takeEaster_27 : decode cX3_takeEaster 27 = .ok (.iload_n 2, 1) := by decide +kernel
theorem dX3_takeEaster_28 : decode cX3_takeEaster 28 = .ok (.ifCond .eq 13, 3) := by decide +kernel
theorem dX3_takeEaster_31 : decode cX3_takeEaster 31 = .ok (.aload_n 1, 1) := by decide +kernel
theorem dX3_takeEaster_32 : decode cX3_takeEaster 32 = .ok (.aload_n 0, 1) := by decide +kernel
theorem dX3_takeEaster_33 : decode cX3_takeEaster 33 = .ok (.getfield 11, 3) := by decide +kernel
theorem dX3_takeEaster_36 : decode cX3_takeEaster 36 = .ok (.iconst 0, 1) := by decide +kernel
theorem dX3_takeEaster_37 : decode cX3_takeEaster 37 = .ok (.iaload, 1) := by decide +kernel
theorem dX3_takeEaster_38 : decode cX3_takeEaster 38 = .ok (.invokevirtual 65, 3) := by decide +kernel
theorem dX3_takeEaster_41 : decode cX3_takeEaster 41 = .ok (.iload_n 2, 1) := by decide +kernel
theorem dX3_takeEaster_42 : decode cX3_takeEaster 42 = .ok (.ireturn, 1) := by decide +kernel
theorem dX4_init_0 : decode cX4_init 0 = .ok (.aload_n 0, 1) := by decide +kernel
theorem dX4_init_1 : decode cX4_init 1 = .ok (.invokespecial 3, 3) := by decide +kernel
theorem dX4_init_4 : decode cX4_init 4 = .ok (.aload_n 0, 1) := by decide +kernel
theorem dX4_init_5 : decode cX4_init 5 = .ok (.bipush 8, 2) := by decide +kernel
theorem dX4_init_7 : decode cX4_init 7 = .ok (.newarray .int, 2) := by decide +kernel
theorem dX4_init_9 : decode cX4_init 9 = .ok (.putfield 9, 3) := by decide +kernel
theorem dX4_init_12 : decode cX4_init 12 = .ok (.aload_n 0, 1) := by decide +kernel
theorem dX4_init_13 : decode cX4_init 13 = .ok (.bipush 8, 2) := by decide +kernel
theorem dX4_init_15 : decode cX4_init 15 = .ok (.newarray .int, 2) := by decide +kernel
theorem dX4_init_17 : decode cX4_init 17 = .ok (.putfield 15, 3) := by decide +kernel
theorem dX4_init_20 : decode cX4_init 20 = .ok (.aload_n 0, 1) := by decide +kernel
theorem dX4_init_21 : decode cX4_init 21 = .ok (.bipush 64, 2) := by decide +kernel
theorem dX4_init_23 : decode cX4_init 23 = .ok (.newarray .int, 2) := by decide +kernel
theorem dX4_init_25 : decode cX4_init 25 = .ok (.putfield 18, 3) := by decide +kernel
theorem dX4_init_28 : decode cX4_init 28 = .ok (.aload_n 0, 1) := by decide +kernel
theorem dX4_init_29 : decode cX4_init 29 = .ok (.bipush 8, 2) := by decide +kernel
theorem dX4_init_31 : decode cX4_init 31 = .ok (.newarray .int, 2) := by decide +kernel
theorem dX4_init_33 : decode cX4_init 33 = .ok (.putfield 21, 3) := by decide +kernel
theorem dX4_init_36 : decode cX4_init 36 = .ok (.return_, 1) := by decide +kernel
set_option maxRecDepth 20000 in
theorem ggX4_clear_J7_fill_53178 : GoodIn wsX4_clear wsJ7_fill_53178 := goodIn_r _ [10] (by decide +kernel) (by decide +kernel)
set_option maxRecDepth 20000 in
theorem gX4_clear_J7_fill_53178 : GoodIn wsX4_clear (va_wsS RX4 37 yJ7_fill_53178 wsJ7_fill_53178) := goodIn_app (goodIn_of _ (by decide +kernel)) ggX4_clear_J7_fill_53178
theorem dX4_clear_0 : decode cX4_clear 0 = .ok (.aload_n 0, 1) := by decide +kernel
theorem dX4_clear_1 : decode cX4_clear 1 = .ok (.iconst 0, 1) := by decide +kernel
theorem dX4_clear_2 : decode cX4_clear 2 = .ok (.putfield 24, 3) := by decide +kernel
theorem dX4_clear_5 : decode cX4_clear 5 = .ok (.aload_n 0, 1) := by decide +kernel
theorem dX4_clear_6 : decode cX4_clear 6 = .ok (.iconst 0, 1) := by decide +kernel
theorem dX4_clear_7 : decode cX4_clear 7 = .ok (.putfield 28, 3) := by decide +kernel
theorem dX4_clear_10 : decode cX4_clear 10 = .ok (.aload_n 0, 1) := by decide +kernel
theorem dX4_clear_11 : decode cX4_clear 11 = .ok (.bipush 40, 2) := by decide +kernel
theorem dX4_clear_13 : decode cX4_clear 13 = .ok (.putfield 31, 3) := by decide +kernel
theorem dX4_clear_16 : decode cX4_clear 16 = .ok (.aload_n 0, 1) := by decide +kernel
theorem dX4_clear_17 : decode cX4_clear 17 = .ok (.iconst 0, 1) := by decide +kernel
theorem dX4_clear_18 : decode cX4_clear 18 = .ok (.putfield 34, 3) := by decide +kernel
theorem dX4_clear_21 : decode cX4_clear 21 = .ok (.aload_n 0, 1) := by decide +kernel
theorem dX4_clear_22 : decode cX4_clear 22 = .ok (.getfield 18, 3) := by decide +kernel
theorem dX4_clear_25 : decode cX4_clear 25 = .ok (.iconst 0, 1) := by decide +kernel
theorem dX4_clear_26 : decode cX4_clear 26 = .ok (.invokestatic 37, 3) := by decide +kernel
theorem dX4_clear_29 : decode cX4_clear 29 = .ok (.aload_n 0, 1) := by decide +kernel
theorem dX4_clear_30 : decode cX4_clear 30 = .ok (.getfield 21, 3) := by decide +kernel
theorem dX4_clear_33 : decode cX4_clear 33 = .ok (.iconst 0, 1) := by decide +kernel
theorem dX4_clear_34 : decode cX4_clear 34 = .ok (.invokestatic 37, 3) := by decide +kernel
theorem dX4_clear_37 : decode cX4_clear 37 = .ok (.return_, 1) := by decide +kernel
theorem dX4_copyFrom_0 : decode cX4_copyFrom 0 = .ok (.aload_n 0, 1) := by decide +kernel
theorem dX4_copyFrom_1 : decode cX4_copyFrom 1 = .ok (.aload_n 1, 1) := by decide +kernel
theorem dX4_copyFrom_2 : decode cX4_copyFrom 2 = .ok (.getfield 24, 3) := by decide +kernel
theorem dX4_copyFrom_5 : decode cX4_copyFrom 5 = .ok (.putfield 24, 3) := by decide +kernel
theorem dX4_copyFrom_8 : decode cX4_copyFrom 8 = .ok (.aload_n 0, 1) := by decide +kernel
theorem dX4_copyFrom_9 : decode cX4_copyFrom 9 = .ok (.aload_n 1, 1) := by decide +kernel
theorem dX4_copyFrom_10 : decode cX4_copyFrom 10 = .ok (.getfield 28, 3) := by decide +kernel
theorem dX4_copyFrom_13 : decode cX4_copyFrom 13 = .ok (.putfield 28, 3) := by decide +kernel
theorem dX4_copyFrom_16 : decode cX4_copyFrom 16 = .ok (.aload_n 0, 1) := by decide +kernel
theorem dX4_copyFrom_17 : decode cX4_copyFrom 17 = .ok (.aload_n 1, 1) := by decide +kernel
theorem dX4_copyFrom_18 : decode cX4_copyFrom 18 = .ok (.getfield 31, 3) := by decide +kernel
theorem dX4_copyFrom_21 : decode cX4_copyFrom 21 = .ok (.putfield 31, 3) := by decide +kernel
theorem dX4_copyFrom_24 : decode cX4_copyFrom 24 = .ok (.aload_n 0, 1) := by decide +kernel
theorem dX4_copyFrom_25 : decode cX4_copyFrom 25 = .ok (.aload_n 1, 1) := by decide +kernel
theorem dX4_copyFrom_26 : decode cX4_copyFrom 26 = .ok (.getfield 34, 3) := by decide +kernel
theorem dX4_copyFrom_29 : decode cX4_copyFrom 29 = .ok (.putfield 34, 3) := by decide +kernel
theorem dX4_copyFrom_32 : decode cX4_copyFrom 32 = .ok (.aload_n 1, 1) := by decide +kernel
theorem dX4_copyFrom_33 : decode cX4_copyFrom 33 = .ok (.getfield 9, 3) := by decide +kernel
theorem dX4_copyFrom_36 : decode cX4_copyFrom 36 = .ok (.iconst 0, 1) := by decide +kernel
theorem dX4_copyFrom_37 : decode cX4_copyFrom 37 = .ok (.aload_n 0, 1) := by decide +kernel
theorem dX4_copyFrom_38 : decode cX4_copyFrom 38 = .ok (.getfield 9, 3) := by decide +kernel
theorem dX4_copyFrom_41 : decode cX4_copyFrom 41 = .ok (.iconst 0, 1) := by decide +kernel
theorem dX4_copyFrom_42 : decode cX4_copyFrom 42 = .ok (.bipush 8, 2) := by decide +kernel
theorem dX4_copyFrom_44 : decode cX4_copyFrom 44 = .ok (.invokestatic 43, 3) := by decide +kernel
theorem dX4_copyFrom_47 : decode cX4_copyFrom 47 = .ok (.aload_n 1, 1) := by decide +kernel
theorem dX4_copyFrom_48 : decode cX4_copyFrom 48 = .ok (.getfield 15, 3) := by decide +kernel
theorem dX4_copyFrom_51 : decode cX4_copyFrom 51 = .ok (.iconst 0, 1) := by decide +kernel
theorem dX4_copyFrom_52 : decode cX4_copyFrom 52 = .ok (.aload_n 0, 1) := by decide +kernel
theorem dX4_copyFrom_53 : decode cX4_copyFrom 53 = .ok (.getfield 15, 3) := by decide +kernel
theorem dX4_copyFrom_56 : decode cX4_copyFrom 56 = .ok (.iconst 0, 1) := by decide +kernel
theorem dX4_copyFrom_57 : decode cX4_copyFrom 57 = .ok (.bipush 8, 2) := by decide +kernel
theorem dX4_copyFrom_59 : decode cX4_copyFrom 59 = .ok (.invokestatic 43, 3) := by decide +kernel
theorem dX4_copyFrom_62 : decode cX4_copyFrom 62 = .ok (.aload_n 1, 1) := by decide +kernel
theorem dX4_copyFrom_63 : decode cX4_copyFrom 63 = .ok (.getfield 18, 3) := by decide +kernel
theorem dX4_copyFrom_66 : decode cX4_copyFrom 66 = .ok (.iconst 0, 1) := by decide +kernel
theorem dX4_copyFrom_67 : decode cX4_copyFrom 67 = .ok (.aload_n 0, 1) := by decide +kernel
theorem dX4_copyFrom_68 : decode cX4_copyFrom 68 = .ok (.getfield 18, 3) := by decide +kernel
theorem dX4_copyFrom_71 : decode cX4_copyFrom 71 = .ok (.iconst 0, 1) := by decide +kernel
theorem dX4_copyFrom_72 : decode cX4_copyFrom 72 = .ok (.bipush 64, 2) := by decide +kernel
theorem dX4_copyFrom_74 : decode cX4_copyFrom 74 = .ok (.invokestatic 43, 3) := by decide +kernel
theorem dX4_copyFrom_77 : decode cX4_copyFrom 77 = .ok (.aload_n 1, 1) := by decide +kernel
theorem dX4_copyFrom_78 : decode cX4_copyFrom 78 = .ok (.getfield 21, 3) := by decide +kernel
theorem dX4_copyFrom_81 : decode cX4_copyFrom 81 = .ok (.iconst 0, 1) := by decide +kernel
theorem dX4_copyFrom_82 : decode cX4_copyFrom 82 = .ok (.aload_n 0, 1) := by decide +kernel
theorem dX4_copyFrom_83 : decode cX4_copyFrom 83 = .ok (.getfield 21, 3) := by decide +kernel
theorem dX4_copyFrom_86 : decode cX4_copyFrom 86 = .ok (.iconst 0, 1) := by decide +kernel
theorem dX4_copyFrom_87 : decode cX4_copyFrom 87 = .ok (.bipush 8, 2) := by decide +kernel
theorem dX4_copyFrom_89 : decode cX4_copyFrom 89 = .ok (.invokestatic 43, 3) := by decide +kernel
theorem dX4_copyFrom_92 : decode cX4_copyFrom 92 = .ok (.return_, 1) := by decide +kernel
theorem dX4_addPerson_0 : decode cX4_addPerson 0 = .ok (.aload_n 0, 1) := by decide +kernel
theorem dX4_addPerson_1 : decode cX4_addPerson 1 = .ok (.getfield 24, 3) := by decide +kernel
theorem dX4_addPerson_4 : decode cX4_addPerson 4 = .ok (.bipush 8, 2) := by decide +kernel
theorem dX4_addPerson_6 : decode cX4_addPerson 6 = .ok (.if_icmp .ge 48, 3) := by decide +kernel
theorem dX4_addPerson_9 : decode cX4_addPerson 9 = .ok (.aload_n 0, 1) := by decide +kernel
theorem dX4_addPerson_10 : decode cX4_addPerson 10 = .ok (.getfield 9, 3) := by decide +kernel
theorem dX4_addPerson_13 : decode cX4_addPerson 13 = .ok (.aload_n 0, 1) := by decide +kernel
theorem dX4_addPerson_14 : decode cX4_addPerson 14 = .ok (.getfield 24, 3) := by decide +kernel
theorem dX4_addPerson_17 : decode cX4_addPerson 17 = .ok (.iload_n 1, 1) := by decide +kernel
theorem dX4_addPerson_18 : decode cX4_addPerson 18 = .ok (.iastore, 1) := by decide +kernel
theorem dX4_addPerson_19 : decode cX4_addPerson 19 = .ok (.aload_n 0, 1) := by decide +kernel
theorem dX4_addPerson_20 : decode cX4_addPerson 20 = .ok (.getfield 15, 3) := by decide +kernel
theorem dX4_addPerson_23 : decode cX4_addPerson 23 = .ok (.aload_n 0, 1) := by decide +kernel
theorem dX4_addPerson_24 : decode cX4_addPerson 24 = .ok (.getfield 24, 3) := by decide +kernel
theorem dX4_addPerson_27 : decode cX4_addPerson 27 = .ok (.iload_n 2, 1) := by decide +kernel
theorem dX4_addPerson_28 : decode cX4_addPerson 28 = .ok (.iastore, 1) := by decide +kernel
theorem dX4_addPerson_29 : decode cX4_addPerson 29 = .ok (.aload_n 0, 1) := by decide +kernel
theorem dX4_addPerson_30 : decode cX4_addPerson 30 = .ok (.dup, 1) := by decide +kernel
theorem dX4_addPerson_31 : decode cX4_addPerson 31 = .ok (.getfield 34, 3) := by decide +kernel
theorem dX4_addPerson_34 : decode cX4_addPerson 34 = .ok (.iconst 1, 1) := by decide +kernel
theorem dX4_addPerson_35 : decode cX4_addPerson 35 = .ok (.aload_n 0, 1) := by decide +kernel
theorem dX4_addPerson_36 : decode cX4_addPerson 36 = .ok (.getfield 24, 3) := by decide +kernel
theorem dX4_addPerson_39 : decode cX4_addPerson 39 = .ok (.ishl, 1) := by decide +kernel
theorem dX4_addPerson_40 : decode cX4_addPerson 40 = .ok (.ior, 1) := by decide +kernel
theorem dX4_addPerson_41 : decode cX4_addPerson 41 = .ok (.putfield 34, 3) := by decide +kernel
theorem dX4_addPerson_44 : decode cX4_addPerson 44 = .ok (.aload_n 0, 1) := by decide +kernel
theorem dX4_addPerson_45 : decode cX4_addPerson 45 = .ok (.dup, 1) := by decide +kernel
theorem dX4_addPerson_46 : decode cX4_addPerson 46 = .ok (.getfield 24, 3) := by decide +kernel
theorem dX4_addPerson_49 : decode cX4_addPerson 49 = .ok (.iconst 1, 1) := by decide +kernel
theorem dX4_addPerson_50 : decode cX4_addPerson 50 = .ok (.iadd, 1) := by decide +kernel
theorem dX4_addPerson_51 : decode cX4_addPerson 51 = .ok (.putfield 24, 3) := by decide +kernel
theorem dX4_addPerson_54 : decode cX4_addPerson 54 = .ok (.return_, 1) := by decide +kernel
set_option maxRecDepth 20000 in
theorem ggX4_addStranger_X4_addPerson : GoodIn wsX4_addStranger wsX4_addPerson := goodIn_r _ [6, 1, 7, 8, 9, 20, 21, 22, 23, 24, 25, 26, 27] (by decide +kernel) (by decide +kernel)
set_option maxRecDepth 20000 in
theorem gX4_addStranger_X4_addPerson : GoodIn wsX4_addStranger (wsV RX4 49 RX4 yX4_addPerson wsX4_addPerson) := goodIn_app (goodIn_of _ (by decide +kernel)) ggX4_addStranger_X4_addPerson
set_option maxRecDepth 20000 in
theorem ggX4_addStranger_X4_isAlive : GoodIn wsX4_addStranger wsX4_isAlive := goodIn_r _ [13, 9, 20, 21, 22, 23, 24, 25, 26, 27] (by decide +kernel) (by decide +kernel)
set_option maxRecDepth 20000 in
theorem gX4_addStranger_X4_isAlive : GoodIn wsX4_addStranger (wsV RX4 53 RX4 yX4_isAlive wsX4_isAlive) := goodIn_app (goodIn_of _ (by decide +kernel)) ggX4_addStranger_X4_isAlive
set_option maxRecDepth 20000 in
theorem ggX4_addStranger_X4_setDebt : GoodIn wsX4_addStranger wsX4_setDebt := goodIn_r _ [17, 18, 19, 20, 21, 22, 23, 24, 25, 26, 27] (by decide +kernel) (by decide +kernel)
set_option maxRecDepth 20000 in
theorem gX4_addStranger_X4_setDebt : GoodIn wsX4_addStranger (wsV RX4 57 RX4 yX4_setDebt wsX4_setDebt) := goodIn_app (goodIn_of _ (by decide +kernel)) ggX4_addStranger_X4_setDebt
theorem dX4_addStranger_0 : decode cX4_addStranger 0 = .ok (.aload_n 0, 1) := by decide +kernel
theorem dX4_addStranger_1 : decode cX4_addStranger 1 = .ok (.getfield 24, 3) := by decide +kernel
theorem dX4_addStranger_4 : decode cX4_addStranger 4 = .ok (.istore_n 1, 1) := by decide +kernel
theorem dX4_addStranger_5 : decode cX4_addStranger 5 = .ok (.aload_n 0, 1) := by decide +kernel
theorem dX4_addStranger_6 : decode cX4_addStranger 6 = .ok (.iconst 0, 1) := by decide +kernel
theorem dX4_addStranger_7 : decode cX4_addStranger 7 = .ok (.iconst 0, 1) := by decide +kernel
theorem dX4_addStranger_8 : decode cX4_addStranger 8 = .ok (.invokevirtual 49, 3) := by decide +kernel
theorem dX4_addStranger_11 : decode cX4_addStranger 11 = .ok (.iconst 0, 1) := by decide +kernel
theorem dX4_addStranger_12 : decode cX4_addStranger 12 = .ok (.istore_n 2, 1) := by decide +kernel
theorem dX4_addStranger_13 : decode cX4_addStranger 13 = .ok (.iload_n 2, 1) := by decide +kernel
theorem dX4_addStranger_14 : decode cX4_addStranger 14 = .ok (.iload_n 1, 1) := by decide +kernel
theorem dX4_addStranger_15 : decode cX4_addStranger 15 = .ok (.if_icmp .ge 24, 3) := by decide +kernel
theorem dX4_addStranger_18 : decode cX4_addStranger 18 = .ok (.aload_n 0, 1) := by decide +kernel
theorem dX4_addStranger_19 : decode cX4_addStranger 19 = .ok (.iload_n 2, 1) := by decide +kernel
theorem dX4_addStranger_20 : decode cX4_addStranger 20 = .ok (.invokevirtual 53, 3) := by decide +kernel
theorem dX4_addStranger_23 : decode cX4_addStranger 23 = .ok (.ifCond .eq 10, 3) := by decide +kernel
theorem dX4_addStranger_26 : decode cX4_addStranger 26 = .ok (.aload_n 0, 1) := by decide +kernel
theorem dX4_addStranger_27 : decode cX4_addStranger 27 = .ok (.iload_n 1, 1) := by decide +kernel
theorem dX4_addStranger_28 : decode cX4_addStranger 28 = .ok (.iload_n 2, 1) := by decide +kernel
theorem dX4_addStranger_29 : decode cX4_addStranger 29 = .ok (.iconst 1, 1) := by decide +kernel
theorem dX4_addStranger_30 : decode cX4_addStranger 30 = .ok (.invokevirtual 57, 3) := by decide +kernel
theorem dX4_addStranger_33 : decode cX4_addStranger 33 = .ok (.iinc 2 1, 3) := by decide +kernel
theorem dX4_addStranger_36 : decode cX4_addStranger 36 = .ok (.goto (-23), 3) := by decide +kernel
theorem dX4_addStranger_39 : decode cX4_addStranger 39 = .ok (.return_, 1) := by decide +kernel
theorem dX4_setEasterDay_0 : decode cX4_setEasterDay 0 = .ok (.aload_n 0, 1) := by decide +kernel
theorem dX4_setEasterDay_1 : decode cX4_setEasterDay 1 = .ok (.iload_n 1, 1) := by decide +kernel
theorem dX4_setEasterDay_2 : decode cX4_setEasterDay 2 = .ok (.putfield 31, 3) := by decide +kernel
theorem dX4_setEasterDay_5 : decode cX4_setEasterDay 5 = .ok (.return_, 1) := by decide +kernel
theorem dX4_setDebt_0 : decode cX4_setDebt 0 = .ok (.bipush 8, 2) := by decide +kernel
theorem dX4_setDebt_2 : decode cX4_setDebt 2 = .ok (.iload_n 1, 1) := by decide +kernel
theorem dX4_setDebt_3 : decode cX4_setDebt 3 = .ok (.imul, 1) := by decide +kernel
theorem dX4_setDebt_4 : decode cX4_setDebt 4 = .ok (.iload_n 2, 1) := by decide +kernel
theorem dX4_setDebt_5 : decode cX4_setDebt 5 = .ok (.iadd, 1) := by decide +kernel
theorem dX4_setDebt_6 : decode cX4_setDebt 6 = .ok (.istore 4, 2) := by decide +kernel
theorem dX4_setDebt_8 : decode cX4_setDebt 8 = .ok (.aload_n 0, 1) := by decide +kernel
theorem dX4_setDebt_9 : decode cX4_setDebt 9 = .ok (.getfield 21, 3) := by decide +kernel
theorem dX4_setDebt_12 : decode cX4_setDebt 12 = .ok (.iload_n 1, 1) := by decide +kernel
theorem dX4_setDebt_13 : decode cX4_setDebt 13 = .ok (.dup2, 1) := by decide +kernel
theorem dX4_setDebt_14 : decode cX4_setDebt 14 = .ok (.iaload, 1) := by decide +kernel
theorem dX4_setDebt_15 : decode cX4_setDebt 15 = .ok (.iload_n 3, 1) := by decide +kernel
theorem dX4_setDebt_16 : decode cX4_setDebt 16 = .ok (.aload_n 0, 1) := by decide +kernel
theorem dX4_setDebt_17 : decode cX4_setDebt 17 = .ok (.getfield 18, 3) := by decide +kernel
theorem dX4_setDebt_20 : decode cX4_setDebt 20 = .ok (.iload 4, 2) := by decide +kernel
theorem dX4_setDebt_22 : decode cX4_setDebt 22 = .ok (.iaload, 1) := by decide +kernel
theorem dX4_setDebt_23 : decode cX4_setDebt 23 = .ok (.isub, 1) := by decide +kernel
theorem dX4_setDebt_24 : decode cX4_setDebt 24 = .ok (.iadd, 1) := by decide +kernel
theorem dX4_setDebt_25 : decode cX4_setDebt 25 = .ok (.iastore, 1) := by decide +kernel
theorem dX4_setDebt_26 : decode cX4_setDebt 26 = .ok (.aload_n 0, 1) := by decide +kernel
theorem dX4_setDebt_27 : decode cX4_setDebt 27 = .ok (.getfield 18, 3) := by decide +kernel
theorem dX4_setDebt_30 : decode cX4_setDebt 30 = .ok (.iload 4, 2) := by decide +kernel
theorem dX4_setDebt_32 : decode cX4_setDebt 32 = .ok (.iload_n 3, 1) := by decide +kernel
theorem dX4_setDebt_33 : decode cX4_setDebt 33 = .ok (.iastore, 1) := by decide +kernel
theorem dX4_setDebt_34 : decode cX4_setDebt 34 = .ok (.return_, 1) := by decide +kernel
theorem dX4_persons_0 : decode cX4_persons 0 = .ok (.aload_n 0, 1) := by decide +kernel
theorem dX4_persons_1 : decode cX4_persons 1 = .ok (.getfield 24, 3) := by decide +kernel
theorem dX4_persons_4 : decode cX4_persons 4 = .ok (.ireturn, 1) := by decide +kernel
theorem dX4_day_0 : decode cX4_day 0 = .ok (.aload_n 0, 1) := by decide +kernel
theorem dX4_day_1 : decode cX4_day 1 = .ok (.getfield 28, 3) := by decide +kernel
theorem dX4_day_4 : decode cX4_day 4 = .ok (.ireturn, 1) := by decide +kernel
theorem dX4_easterDay_0 : decode cX4_easterDay 0 = .ok (.aload_n 0, 1) := by decide +kernel
theorem dX4_easterDay_1 : decode cX4_easterDay 1 = .ok (.getfield 31, 3) := by decide +kernel
theorem dX4_easterDay_4 : decode cX4_easterDay 4 = .ok (.ireturn, 1) := by decide +kernel
theorem dX4_kindOf_0 : decode cX4_kindOf 0 = .ok (.aload_n 0, 1) := by decide +kernel
theorem dX4_kindOf_1 : decode cX4_kindOf 1 = .ok (.getfield 9, 3) := by decide +kernel
theorem dX4_kindOf_4 : decode cX4_kindOf 4 = .ok (.iload_n 1, 1) := by decide +kernel
theorem dX4_kindOf_5 : decode cX4_kindOf 5 = .ok (.iaload, 1) := by decide +kernel
theorem dX4_kindOf_6 : decode cX4_kindOf 6 = .ok (.ireturn, 1) := by decide +kernel
theorem dX4_streetOf_0 : decode cX4_streetOf 0 = .ok (.aload_n 0, 1) := by decide +kernel
theorem dX4_streetOf_1 : decode cX4_streetOf 1 = .ok (.getfield 15, 3) := by decide +kernel
theorem dX4_streetOf_4 : decode cX4_streetOf 4 = .ok (.iload_n 1, 1) := by decide +kernel
theorem dX4_streetOf_5 : decode cX4_streetOf 5 = .ok (.iaload, 1) := by decide +kernel
theorem dX4_streetOf_6 : decode cX4_streetOf 6 = .ok (.ireturn, 1) := by decide +kernel
theorem dX4_isAlive_0 : decode cX4_isAlive 0 = .ok (.aload_n 0, 1) := by decide +kernel
theorem dX4_isAlive_1 : decode cX4_isAlive 1 = .ok (.getfield 34, 3) := by decide +kernel
theorem dX4_isAlive_4 : decode cX4_isAlive 4 = .ok (.iload_n 1, 1) := by decide +kernel
theorem dX4_isAlive_5 : decode cX4_isAlive 5 = .ok (.ishr, 1) := by decide +kernel
theorem dX4_isAlive_6 : decode cX4_isAlive 6 = .ok (.iconst 1, 1) := by decide +kernel
theorem dX4_isAlive_7 : decode cX4_isAlive 7 = .ok (.iand, 1) := by decide +kernel
theorem dX4_isAlive_8 : decode cX4_isAlive 8 = .ok (.iconst 1, 1) := by decide +kernel
theorem dX4_isAlive_9 : decode cX4_isAlive 9 = .ok (.if_icmp .ne 7, 3) := by decide +kernel
theorem dX4_isAlive_12 : decode cX4_isAlive 12 = .ok (.iconst 1, 1) := by decide +kernel
theorem dX4_isAlive_13 : decode cX4_isAlive 13 = .ok (.goto 4, 3) := by decide +kernel
theorem dX4_isAlive_16 : decode cX4_isAlive 16 = .ok (.iconst 0, 1) := by decide +kernel
theorem dX4_isAlive_17 : decode cX4_isAlive 17 = .ok (.ireturn, 1) := by decide +kernel
theorem dX4_debt_0 : decode cX4_debt 0 = .ok (.aload_n 0, 1) := by decide +kernel
theorem dX4_debt_1 : decode cX4_debt 1 = .ok (.getfield 18, 3) := by decide +kernel
theorem dX4_debt_4 : decode cX4_debt 4 = .ok (.bipush 8, 2) := by decide +kernel
theorem dX4_debt_6 : decode cX4_debt 6 = .ok (.iload_n 1, 1) := by decide +kernel
theorem dX4_debt_7 : decode cX4_debt 7 = .ok (.imul, 1) := by decide +kernel
theorem dX4_debt_8 : decode cX4_debt 8 = .ok (.iload_n 2, 1) := by decide +kernel
theorem dX4_debt_9 : decode cX4_debt 9 = .ok (.iadd, 1) := by decide +kernel
theorem dX4_debt_10 : decode cX4_debt 10 = .ok (.iaload, 1) := by decide +kernel
theorem dX4_debt_11 : decode cX4_debt 11 = .ok (.ireturn, 1) := by decide +kernel
theorem dX4_owing_0 : decode cX4_owing 0 = .ok (.aload_n 0, 1) := by decide +kernel
theorem dX4_owing_1 : decode cX4_owing 1 = .ok (.getfield 21, 3) := by decide +kernel
theorem dX4_owing_4 : decode cX4_owing 4 = .ok (.iload_n 1, 1) := by decide +kernel
theorem dX4_owing_5 : decode cX4_owing 5 = .ok (.iaload, 1) := by decide +kernel
theorem dX4_owing_6 : decode cX4_owing 6 = .ok (.ireturn, 1) := by decide +kernel
set_option maxRecDepth 20000 in
theorem ggX4_owedTo_X4_debt : GoodIn wsX4_owedTo wsX4_debt := goodIn_r _ [6, 7, 8, 9, 10, 11, 12, 13, 14, 15] (by decide +kernel) (by decide +kernel)
set_option maxRecDepth 20000 in
theorem gX4_owedTo_X4_debt : GoodIn wsX4_owedTo (wsV RX4 61 RX4 yX4_debt wsX4_debt) := goodIn_app (goodIn_of _ (by decide +kernel)) ggX4_owedTo_X4_debt
theorem dX4_owedTo_0 : decode cX4_owedTo 0 = .ok (.iconst 0, 1) := by decide +kernel
theorem dX4_owedTo_1 : decode cX4_owedTo 1 = .ok (.istore_n 2, 1) := by decide +kernel
theorem dX4_owedTo_2 : decode cX4_owedTo 2 = .ok (.iconst 0, 1) := by decide +kernel
theorem dX4_owedTo_3 : decode cX4_owedTo 3 = .ok (.istore_n 3, 1) := by decide +kernel
theorem dX4_owedTo_4 : decode cX4_owedTo 4 = .ok (.iload_n 3, 1) := by decide +kernel
theorem dX4_owedTo_5 : decode cX4_owedTo 5 = .ok (.aload_n 0, 1) := by decide +kernel
theorem dX4_owedTo_6 : decode cX4_owedTo 6 = .ok (.getfield 24, 3) := by decide +kernel
theorem dX4_owedTo_9 : decode cX4_owedTo 9 = .ok (.if_icmp .ge 18, 3) := by decide +kernel
theorem dX4_owedTo_12 : decode cX4_owedTo 12 = .ok (.iload_n 2, 1) := by decide +kernel
theorem dX4_owedTo_13 : decode cX4_owedTo 13 = .ok (.aload_n 0, 1) := by decide +kernel
theorem dX4_owedTo_14 : decode cX4_owedTo 14 = .ok (.iload_n 3, 1) := by decide +kernel
theorem dX4_owedTo_15 : decode cX4_owedTo 15 = .ok (.iload_n 1, 1) := by decide +kernel
theorem dX4_owedTo_16 : decode cX4_owedTo 16 = .ok (.invokevirtual 61, 3) := by decide +kernel
theorem dX4_owedTo_19 : decode cX4_owedTo 19 = .ok (.iadd, 1) := by decide +kernel
theorem dX4_owedTo_20 : decode cX4_owedTo 20 = .ok (.istore_n 2, 1) := by decide +kernel
theorem dX4_owedTo_21 : decode cX4_owedTo 21 = .ok (.iinc 3 1, 3) := by decide +kernel
theorem dX4_owedTo_24 : decode cX4_owedTo 24 = .ok (.goto (-20), 3) := by decide +kernel
theorem dX4_owedTo_27 : decode cX4_owedTo 27 = .ok (.iload_n 2, 1) := by decide +kernel
theorem dX4_owedTo_28 : decode cX4_owedTo 28 = .ok (.ireturn, 1) := by decide +kernel
theorem dX4_allOwed_0 : decode cX4_allOwed 0 = .ok (.iconst 0, 1) := by decide +kernel
theorem dX4_allOwed_1 : decode cX4_allOwed 1 = .ok (.istore_n 1, 1) := by decide +kernel
theorem dX4_allOwed_2 : decode cX4_allOwed 2 = .ok (.iconst 0, 1) := by decide +kernel
theorem dX4_allOwed_3 : decode cX4_allOwed 3 = .ok (.istore_n 2, 1) := by decide +kernel
theorem dX4_allOwed_4 : decode cX4_allOwed 4 = .ok (.iload_n 2, 1) := by decide +kernel
theorem dX4_allOwed_5 : decode cX4_allOwed 5 = .ok (.aload_n 0, 1) := by decide +kernel
theorem dX4_allOwed_6 : decode cX4_allOwed 6 = .ok (.getfield 24, 3) := by decide +kernel
theorem dX4_allOwed_9 : decode cX4_allOwed 9 = .ok (.if_icmp .ge 18, 3) := by decide +kernel
theorem dX4_allOwed_12 : decode cX4_allOwed 12 = .ok (.iload_n 1, 1) := by decide +kernel
theorem dX4_allOwed_13 : decode cX4_allOwed 13 = .ok (.aload_n 0, 1) := by decide +kernel
theorem dX4_allOwed_14 : decode cX4_allOwed 14 = .ok (.getfield 21, 3) := by decide +kernel
theorem dX4_allOwed_17 : decode cX4_allOwed 17 = .ok (.iload_n 2, 1) := by decide +kernel
theorem dX4_allOwed_18 : decode cX4_allOwed 18 = .ok (.iaload, 1) := by decide +kernel
theorem dX4_allOwed_19 : decode cX4_allOwed 19 = .ok (.iadd, 1) := by decide +kernel
theorem dX4_allOwed_20 : decode cX4_allOwed 20 = .ok (.istore_n 1, 1) := by decide +kernel
theorem dX4_allOwed_21 : decode cX4_allOwed 21 = .ok (.iinc 2 1, 3) := by decide +kernel
theorem dX4_allOwed_24 : decode cX4_allOwed 24 = .ok (.goto (-20), 3) := by decide +kernel
theorem dX4_allOwed_27 : decode cX4_allOwed 27 = .ok (.iload_n 1, 1) := by decide +kernel
theorem dX4_allOwed_28 : decode cX4_allOwed 28 = .ok (.ireturn, 1) := by decide +kernel
theorem dX4_aliveBits_0 : decode cX4_aliveBits 0 = .ok (.aload_n 0, 1) := by decide +kernel
theorem dX4_aliveBits_1 : decode cX4_aliveBits 1 = .ok (.getfield 34, 3) := by decide +kernel
theorem dX4_aliveBits_4 : decode cX4_aliveBits 4 = .ok (.ireturn, 1) := by decide +kernel
set_option maxRecDepth 20000 in
theorem ggX4_stuckBits_X4_owedTo : GoodIn wsX4_stuckBits wsX4_owedTo := goodIn_r _ [7, 1, 8, 9, 10, 6, 11, 12, 13, 14, 15, 16, 17, 18, 19, 20] (by decide +kernel) (by decide +kernel)
set_option maxRecDepth 20000 in
theorem gX4_stuckBits_X4_owedTo : GoodIn wsX4_stuckBits (wsV RX4 65 RX4 yX4_owedTo wsX4_owedTo) := goodIn_app (goodIn_of _ (by decide +kernel)) ggX4_stuckBits_X4_owedTo
theorem dX4_stuckBits_0 : decode cX4_stuckBits 0 = .ok (.iconst 0, 1) := by decide +kernel
theorem dX4_stuckBits_1 : decode cX4_stuckBits 1 = .ok (.istore_n 1, 1) := by decide +kernel
theorem dX4_stuckBits_2 : decode cX4_stuckBits 2 = .ok (.iconst 0, 1) := by decide +kernel
theorem dX4_stuckBits_3 : decode cX4_stuckBits 3 = .ok (.istore_n 2, 1) := by decide +kernel
theorem dX4_stuckBits_4 : decode cX4_stuckBits 4 = .ok (.iload_n 2, 1) := by decide +kernel
theorem dX4_stuckBits_5 : decode cX4_stuckBits 5 = .ok (.aload_n 0, 1) := by decide +kernel
theorem dX4_stuckBits_6 : decode cX4_stuckBits 6 = .ok (.getfield 24, 3) := by decide +kernel
theorem dX4_stuckBits_9 : decode cX4_stuckBits 9 = .ok (.if_icmp .ge 32, 3) := by decide +kernel
theorem dX4_stuckBits_12 : decode cX4_stuckBits 12 = .ok (.aload_n 0, 1) := by decide +kernel
theorem dX4_stuckBits_13 : decode cX4_stuckBits 13 = .ok (.getfield 21, 3) := by decide +kernel
theorem dX4_stuckBits_16 : decode cX4_stuckBits 16 = .ok (.iload_n 2, 1) := by decide +kernel
theorem dX4_stuckBits_17 : decode cX4_stuckBits 17 = .ok (.iaload, 1) := by decide +kernel
theorem dX4_stuckBits_18 : decode cX4_stuckBits 18 = .ok (.ifCond .gt 11, 3) := by decide +kernel
theorem dX4_stuckBits_21 : decode cX4_stuckBits 21 = .ok (.aload_n 0, 1) := by decide +kernel
theorem dX4_stuckBits_22 : decode cX4_stuckBits 22 = .ok (.iload_n 2, 1) := by decide +kernel
theorem dX4_stuckBits_23 : decode cX4_stuckBits 23 = .ok (.invokevirtual 65, 3) := by decide +kernel
theorem dX4_stuckBits_26 : decode cX4_stuckBits 26 = .ok (.ifCond .le 9, 3) := by decide +kernel
theorem dX4_stuckBits_29 : decode cX4_stuckBits 29 = .ok (.iload_n 1, 1) := by decide +kernel
theorem dX4_stuckBits_30 : decode cX4_stuckBits 30 = .ok (.iconst 1, 1) := by decide +kernel
theorem dX4_stuckBits_31 : decode cX4_stuckBits 31 = .ok (.iload_n 2, 1) := by decide +kernel
theorem dX4_stuckBits_32 : decode cX4_stuckBits 32 = .ok (.ishl, 1) := by decide +kernel
theorem dX4_stuckBits_33 : decode cX4_stuckBits 33 = .ok (.ior, 1) := by decide +kernel
theorem dX4_stuckBits_34 : decode cX4_stuckBits 34 = .ok (.istore_n 1, 1) := by decide +kernel
theorem dX4_stuckBits_35 : decode cX4_stuckBits 35 = .ok (.iinc 2 1, 3) := by decide +kernel
theorem dX4_stuckBits_38 : decode cX4_stuckBits 38 = .ok (.goto (-34), 3) := by decide +kernel
theorem dX4_stuckBits_41 : decode cX4_stuckBits 41 = .ok (.iload_n 1, 1) := by decide +kernel
theorem dX4_stuckBits_42 : decode cX4_stuckBits 42 = .ok (.ireturn, 1) := by decide +kernel
theorem dX4_takesApology_0 : decode cX4_takesApology 0 = .ok (.aload_n 0, 1) := by decide +kernel
theorem dX4_takesApology_1 : decode cX4_takesApology 1 = .ok (.getfield 9, 3) := by decide +kernel
