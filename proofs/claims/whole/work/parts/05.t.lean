set_option maxRecDepth 100000 in
theorem tt_211 : lw_tbl[211]? = some (.code yX5_letter cX5_letter 2 (some .int)) := rfl
set_option maxRecDepth 100000 in
theorem tt_265 : lw_tbl[265]? = some (.code yJ1_charAt_3b067 cJ1_charAt_3b067 2 (some .char)) := rfl
set_option maxRecDepth 100000 in
theorem tt_366 : lw_tbl[366]? = some (.code yX4_happenIn cX4_happenIn 4 (some .int)) := rfl
set_option maxRecDepth 100000 in
theorem tt_416 : lw_tbl[416]? = some (.code yX3_addCopy cX3_addCopy 5 (some .int)) := rfl
set_option maxRecDepth 100000 in
theorem tt_460 : lw_tbl[460]? = some (.code yX5_pin cX5_pin 2 (some .int)) := rfl
set_option maxRecDepth 100000 in
theorem tt_506 : lw_tbl[506]? = some (.code yX5_outside cX5_outside 3 (some .int)) := rfl
set_option maxRecDepth 100000 in
theorem tt_558 : lw_tbl[558]? = some (.code yX1_depthOf cX1_depthOf 2 (some .int)) := rfl
set_option maxRecDepth 100000 in
theorem tt_600 : lw_tbl[600]? = some (.code yX3_nearestKey cX3_nearestKey 1 (some .int)) := rfl
set_option maxRecDepth 100000 in
theorem tt_656 : lw_tbl[656]? = some (.code yX2_usesTillShut cX2_usesTillShut 4 (some .int)) := rfl
set_option maxRecDepth 100000 in
theorem tt_712 : lw_tbl[712]? = some (.code yX5_unlike cX5_unlike 4 (some .int)) := rfl
set_option maxRecDepth 100000 in
theorem tt_764 : lw_tbl[764]? = some (.code yX2_isEnough cX2_isEnough 5 (some .boolean)) := rfl
set_option maxRecDepth 100000 in
theorem tt_813 : lw_tbl[813]? = some (.code yX2_machinesThatCut cX2_machinesThatCut 6 (some .int)) := rfl
set_option maxRecDepth 100000 in
theorem tt_864 : lw_tbl[864]? = some (.code yX5_count cX5_count 2 (some .int)) := rfl
set_option maxRecDepth 100000 in
theorem tt_955 : lw_tbl[955]? = some (.code yX6_lays cX6_lays 3 none) := rfl
set_option maxRecDepth 100000 in
theorem tt_999 : lw_tbl[999]? = some (.code yX6_least cX6_least 2 (some .int)) := rfl
set_option maxRecDepth 100000 in
theorem tt_1043 : lw_tbl[1043]? = some (.code yX6_wiggle cX6_wiggle 3 (some .int)) := rfl
set_option maxRecDepth 100000 in
theorem tt_1090 : lw_tbl[1090]? = some (.code yX6_family cX6_family 6 (some .int)) := rfl
set_option maxRecDepth 100000 in
theorem tt_1139 : lw_tbl[1139]? = some (.code yX6_anewOf cX6_anewOf 7 (some .int)) := rfl
set_option maxRecDepth 100000 in
theorem tt_1185 : lw_tbl[1185]? = some (.code yX6_ask cX6_ask 6 (some .int)) := rfl
set_option maxRecDepth 100000 in
theorem tt_1232 : lw_tbl[1232]? = some (.code yX6_clear cX6_clear 2 (some .int)) := rfl
theorem tu_209 : lw_tbl[209]? = some (.instanceMethod yX5_letter) := by decide +kernel
theorem tu_264 : lw_tbl[264]? = some (.static yJ1_charAt_3b067) := by decide +kernel
theorem tu_364 : lw_tbl[364]? = some (.instanceMethod yX4_happenIn) := by decide +kernel
theorem tu_414 : lw_tbl[414]? = some (.instanceMethod yX3_addCopy) := by decide +kernel
