abbrev V_X9_fish (l : Launch) (As : List Value) (h : HP) (Z : Option Value ⊕ String → HP → Prop) : Prop := VM l yX9_fish cX9_fish 2 (some .int) 8 1 6 As h Z
abbrev Q_X9_fish (l : Launch) (Z : Option Value ⊕ String → HP → Prop) (pc : Nat) (lf : Nat → Option Value) (st : List Value) (h : HP) : Prop := Q l RX9 cX9_fish 2 8 1 6 (GM (some .int) 1 6 Z) pc lf st h 0 0
abbrev Qc_X9_fish (l : Launch) (Z : Option Value ⊕ String → HP → Prop) (pc : Nat) (lf : Nat → Option Value) (st : List Value) (h : HP) (ce sl : Nat) : Prop := Q l RX9 cX9_fish 2 8 1 6 (GM (some .int) 1 6 Z) pc lf st h ce sl
abbrev V_X9_brine (l : Launch) (As : List Value) (h : HP) (Z : Option Value ⊕ String → HP → Prop) : Prop := VM l yX9_brine cX9_brine 2 (some .int) 8 1 6 As h Z
abbrev Q_X9_brine (l : Launch) (Z : Option Value ⊕ String → HP → Prop) (pc : Nat) (lf : Nat → Option Value) (st : List Value) (h : HP) : Prop := Q l RX9 cX9_brine 2 8 1 6 (GM (some .int) 1 6 Z) pc lf st h 0 0
abbrev Qc_X9_brine (l : Launch) (Z : Option Value ⊕ String → HP → Prop) (pc : Nat) (lf : Nat → Option Value) (st : List Value) (h : HP) (ce sl : Nat) : Prop := Q l RX9 cX9_brine 2 8 1 6 (GM (some .int) 1 6 Z) pc lf st h ce sl
abbrev V_X9_out (l : Launch) (As : List Value) (h : HP) (Z : Option Value ⊕ String → HP → Prop) : Prop := VM l yX9_out cX9_out 2 (some .int) 8 1 6 As h Z
abbrev Q_X9_out (l : Launch) (Z : Option Value ⊕ String → HP → Prop) (pc : Nat) (lf : Nat → Option Value) (st : List Value) (h : HP) : Prop := Q l RX9 cX9_out 2 8 1 6 (GM (some .int) 1 6 Z) pc lf st h 0 0
abbrev Qc_X9_out (l : Launch) (Z : Option Value ⊕ String → HP → Prop) (pc : Nat) (lf : Nat → Option Value) (st : List Value) (h : HP) (ce sl : Nat) : Prop := Q l RX9 cX9_out 2 8 1 6 (GM (some .int) 1 6 Z) pc lf st h ce sl
abbrev V_X9_hang (l : Launch) (As : List Value) (h : HP) (Z : Option Value ⊕ String → HP → Prop) : Prop := VM l yX9_hang cX9_hang 4 (some .int) 8 1 6 As h Z
abbrev Q_X9_hang (l : Launch) (Z : Option Value ⊕ String → HP → Prop) (pc : Nat) (lf : Nat → Option Value) (st : List Value) (h : HP) : Prop := Q l RX9 cX9_hang 4 8 1 6 (GM (some .int) 1 6 Z) pc lf st h 0 0
abbrev Qc_X9_hang (l : Launch) (Z : Option Value ⊕ String → HP → Prop) (pc : Nat) (lf : Nat → Option Value) (st : List Value) (h : HP) (ce sl : Nat) : Prop := Q l RX9 cX9_hang 4 8 1 6 (GM (some .int) 1 6 Z) pc lf st h ce sl
abbrev V_X9_turn (l : Launch) (As : List Value) (h : HP) (Z : Option Value ⊕ String → HP → Prop) : Prop := VM l yX9_turn cX9_turn 2 (some .int) 8 1 6 As h Z
abbrev Q_X9_turn (l : Launch) (Z : Option Value ⊕ String → HP → Prop) (pc : Nat) (lf : Nat → Option Value) (st : List Value) (h : HP) : Prop := Q l RX9 cX9_turn 2 8 1 6 (GM (some .int) 1 6 Z) pc lf st h 0 0
abbrev Qc_X9_turn (l : Launch) (Z : Option Value ⊕ String → HP → Prop) (pc : Nat) (lf : Nat → Option Value) (st : List Value) (h : HP) (ce sl : Nat) : Prop := Q l RX9 cX9_turn 2 8 1 6 (GM (some .int) 1 6 Z) pc lf st h ce sl
abbrev V_X9_turnAll (l : Launch) (As : List Value) (h : HP) (Z : Option Value ⊕ String → HP → Prop) : Prop := VM l yX9_turnAll cX9_turnAll 2 (some .int) 8 1 6 As h Z
abbrev Q_X9_turnAll (l : Launch) (Z : Option Value ⊕ String → HP → Prop) (pc : Nat) (lf : Nat → Option Value) (st : List Value) (h : HP) : Prop := Q l RX9 cX9_turnAll 2 8 1 6 (GM (some .int) 1 6 Z) pc lf st h 0 0
abbrev Qc_X9_turnAll (l : Launch) (Z : Option Value ⊕ String → HP → Prop) (pc : Nat) (lf : Nat → Option Value) (st : List Value) (h : HP) (ce sl : Nat) : Prop := Q l RX9 cX9_turnAll 2 8 1 6 (GM (some .int) 1 6 Z) pc lf st h ce sl
abbrev V_X9_logs (l : Launch) (As : List Value) (h : HP) (Z : Option Value ⊕ String → HP → Prop) : Prop := VM l yX9_logs cX9_logs 2 (some .int) 8 1 6 As h Z
abbrev Q_X9_logs (l : Launch) (Z : Option Value ⊕ String → HP → Prop) (pc : Nat) (lf : Nat → Option Value) (st : List Value) (h : HP) : Prop := Q l RX9 cX9_logs 2 8 1 6 (GM (some .int) 1 6 Z) pc lf st h 0 0
abbrev Qc_X9_logs (l : Launch) (Z : Option Value ⊕ String → HP → Prop) (pc : Nat) (lf : Nat → Option Value) (st : List Value) (h : HP) (ce sl : Nat) : Prop := Q l RX9 cX9_logs 2 8 1 6 (GM (some .int) 1 6 Z) pc lf st h ce sl
abbrev V_X9_wood (l : Launch) (As : List Value) (h : HP) (Z : Option Value ⊕ String → HP → Prop) : Prop := VM l yX9_wood cX9_wood 2 (some .int) 8 1 6 As h Z
abbrev Q_X9_wood (l : Launch) (Z : Option Value ⊕ String → HP → Prop) (pc : Nat) (lf : Nat → Option Value) (st : List Value) (h : HP) : Prop := Q l RX9 cX9_wood 2 8 1 6 (GM (some .int) 1 6 Z) pc lf st h 0 0
abbrev Qc_X9_wood (l : Launch) (Z : Option Value ⊕ String → HP → Prop) (pc : Nat) (lf : Nat → Option Value) (st : List Value) (h : HP) (ce sl : Nat) : Prop := Q l RX9 cX9_wood 2 8 1 6 (GM (some .int) 1 6 Z) pc lf st h ce sl
abbrev V_X9_day (l : Launch) (As : List Value) (h : HP) (Z : Option Value ⊕ String → HP → Prop) : Prop := VM l yX9_day cX9_day 1 (some .int) 8 1 6 As h Z
abbrev Q_X9_day (l : Launch) (Z : Option Value ⊕ String → HP → Prop) (pc : Nat) (lf : Nat → Option Value) (st : List Value) (h : HP) : Prop := Q l RX9 cX9_day 1 8 1 6 (GM (some .int) 1 6 Z) pc lf st h 0 0
abbrev Qc_X9_day (l : Launch) (Z : Option Value ⊕ String → HP → Prop) (pc : Nat) (lf : Nat → Option Value) (st : List Value) (h : HP) (ce sl : Nat) : Prop := Q l RX9 cX9_day 1 8 1 6 (GM (some .int) 1 6 Z) pc lf st h ce sl
abbrev V_X9_hours (l : Launch) (As : List Value) (h : HP) (Z : Option Value ⊕ String → HP → Prop) : Prop := VM l yX9_hours cX9_hours 2 (some .int) 8 1 6 As h Z
abbrev Q_X9_hours (l : Launch) (Z : Option Value ⊕ String → HP → Prop) (pc : Nat) (lf : Nat → Option Value) (st : List Value) (h : HP) : Prop := Q l RX9 cX9_hours 2 8 1 6 (GM (some .int) 1 6 Z) pc lf st h 0 0
abbrev Qc_X9_hours (l : Launch) (Z : Option Value ⊕ String → HP → Prop) (pc : Nat) (lf : Nat → Option Value) (st : List Value) (h : HP) (ce sl : Nat) : Prop := Q l RX9 cX9_hours 2 8 1 6 (GM (some .int) 1 6 Z) pc lf st h ce sl
abbrev V_X9_sell (l : Launch) (As : List Value) (h : HP) (Z : Option Value ⊕ String → HP → Prop) : Prop := VM l yX9_sell cX9_sell 2 (some .int) 8 1 6 As h Z
abbrev Q_X9_sell (l : Launch) (Z : Option Value ⊕ String → HP → Prop) (pc : Nat) (lf : Nat → Option Value) (st : List Value) (h : HP) : Prop := Q l RX9 cX9_sell 2 8 1 6 (GM (some .int) 1 6 Z) pc lf st h 0 0
abbrev Qc_X9_sell (l : Launch) (Z : Option Value ⊕ String → HP → Prop) (pc : Nat) (lf : Nat → Option Value) (st : List Value) (h : HP) (ce sl : Nat) : Prop := Q l RX9 cX9_sell 2 8 1 6 (GM (some .int) 1 6 Z) pc lf st h ce sl
abbrev V_X9_throwAway (l : Launch) (As : List Value) (h : HP) (Z : Option Value ⊕ String → HP → Prop) : Prop := VM l yX9_throwAway cX9_throwAway 2 (some .int) 8 1 6 As h Z
abbrev Q_X9_throwAway (l : Launch) (Z : Option Value ⊕ String → HP → Prop) (pc : Nat) (lf : Nat → Option Value) (st : List Value) (h : HP) : Prop := Q l RX9 cX9_throwAway 2 8 1 6 (GM (some .int) 1 6 Z) pc lf st h 0 0
abbrev Qc_X9_throwAway (l : Launch) (Z : Option Value ⊕ String → HP → Prop) (pc : Nat) (lf : Nat → Option Value) (st : List Value) (h : HP) (ce sl : Nat) : Prop := Q l RX9 cX9_throwAway 2 8 1 6 (GM (some .int) 1 6 Z) pc lf st h ce sl
abbrev V_X9_fishOf (l : Launch) (As : List Value) (h : HP) (Z : Option Value ⊕ String → HP → Prop) : Prop := VM l yX9_fishOf cX9_fishOf 3 (some .int) 8 2 12 As h Z
abbrev Q_X9_fishOf (l : Launch) (Z : Option Value ⊕ String → HP → Prop) (pc : Nat) (lf : Nat → Option Value) (st : List Value) (h : HP) : Prop := Q l RX9 cX9_fishOf 3 8 2 12 (GM (some .int) 2 12 Z) pc lf st h 0 0
abbrev Qc_X9_fishOf (l : Launch) (Z : Option Value ⊕ String → HP → Prop) (pc : Nat) (lf : Nat → Option Value) (st : List Value) (h : HP) (ce sl : Nat) : Prop := Q l RX9 cX9_fishOf 3 8 2 12 (GM (some .int) 2 12 Z) pc lf st h ce sl
abbrev V_X9_sideOf (l : Launch) (As : List Value) (h : HP) (Z : Option Value ⊕ String → HP → Prop) : Prop := VM l yX9_sideOf cX9_sideOf 5 (some .int) 8 2 12 As h Z
abbrev Q_X9_sideOf (l : Launch) (Z : Option Value ⊕ String → HP → Prop) (pc : Nat) (lf : Nat → Option Value) (st : List Value) (h : HP) : Prop := Q l RX9 cX9_sideOf 5 8 2 12 (GM (some .int) 2 12 Z) pc lf st h 0 0
abbrev Qc_X9_sideOf (l : Launch) (Z : Option Value ⊕ String → HP → Prop) (pc : Nat) (lf : Nat → Option Value) (st : List Value) (h : HP) (ce sl : Nat) : Prop := Q l RX9 cX9_sideOf 5 8 2 12 (GM (some .int) 2 12 Z) pc lf st h ce sl
abbrev V_X9_at (l : Launch) (As : List Value) (h : HP) (Z : Option Value ⊕ String → HP → Prop) : Prop := VM l yX9_at cX9_at 3 (some .int) 8 2 12 As h Z
abbrev Q_X9_at (l : Launch) (Z : Option Value ⊕ String → HP → Prop) (pc : Nat) (lf : Nat → Option Value) (st : List Value) (h : HP) : Prop := Q l RX9 cX9_at 3 8 2 12 (GM (some .int) 2 12 Z) pc lf st h 0 0
abbrev Qc_X9_at (l : Launch) (Z : Option Value ⊕ String → HP → Prop) (pc : Nat) (lf : Nat → Option Value) (st : List Value) (h : HP) (ce sl : Nat) : Prop := Q l RX9 cX9_at 3 8 2 12 (GM (some .int) 2 12 Z) pc lf st h ce sl
abbrev V_X9_heat (l : Launch) (As : List Value) (h : HP) (Z : Option Value ⊕ String → HP → Prop) : Prop := VM l yX9_heat cX9_heat 2 (some .int) 8 1 6 As h Z
abbrev Q_X9_heat (l : Launch) (Z : Option Value ⊕ String → HP → Prop) (pc : Nat) (lf : Nat → Option Value) (st : List Value) (h : HP) : Prop := Q l RX9 cX9_heat 2 8 1 6 (GM (some .int) 1 6 Z) pc lf st h 0 0
abbrev Qc_X9_heat (l : Launch) (Z : Option Value ⊕ String → HP → Prop) (pc : Nat) (lf : Nat → Option Value) (st : List Value) (h : HP) (ce sl : Nat) : Prop := Q l RX9 cX9_heat 2 8 1 6 (GM (some .int) 1 6 Z) pc lf st h ce sl
abbrev V_X9_nearest (l : Launch) (As : List Value) (h : HP) (Z : Option Value ⊕ String → HP → Prop) : Prop := VM l yX9_nearest cX9_nearest 3 (some .int) 8 2 12 As h Z
abbrev Q_X9_nearest (l : Launch) (Z : Option Value ⊕ String → HP → Prop) (pc : Nat) (lf : Nat → Option Value) (st : List Value) (h : HP) : Prop := Q l RX9 cX9_nearest 3 8 2 12 (GM (some .int) 2 12 Z) pc lf st h 0 0
abbrev Qc_X9_nearest (l : Launch) (Z : Option Value ⊕ String → HP → Prop) (pc : Nat) (lf : Nat → Option Value) (st : List Value) (h : HP) (ce sl : Nat) : Prop := Q l RX9 cX9_nearest 3 8 2 12 (GM (some .int) 2 12 Z) pc lf st h ce sl
abbrev V_X9_isCrowded (l : Launch) (As : List Value) (h : HP) (Z : Option Value ⊕ String → HP → Prop) : Prop := VM l yX9_isCrowded cX9_isCrowded 2 (some .boolean) 8 1 6 As h Z
abbrev Q_X9_isCrowded (l : Launch) (Z : Option Value ⊕ String → HP → Prop) (pc : Nat) (lf : Nat → Option Value) (st : List Value) (h : HP) : Prop := Q l RX9 cX9_isCrowded 2 8 1 6 (GM (some .boolean) 1 6 Z) pc lf st h 0 0
abbrev Qc_X9_isCrowded (l : Launch) (Z : Option Value ⊕ String → HP → Prop) (pc : Nat) (lf : Nat → Option Value) (st : List Value) (h : HP) (ce sl : Nat) : Prop := Q l RX9 cX9_isCrowded 2 8 1 6 (GM (some .boolean) 1 6 Z) pc lf st h ce sl
abbrev V_X9_isDone (l : Launch) (As : List Value) (h : HP) (Z : Option Value ⊕ String → HP → Prop) : Prop := VM l yX9_isDone cX9_isDone 2 (some .boolean) 8 1 6 As h Z
abbrev Q_X9_isDone (l : Launch) (Z : Option Value ⊕ String → HP → Prop) (pc : Nat) (lf : Nat → Option Value) (st : List Value) (h : HP) : Prop := Q l RX9 cX9_isDone 2 8 1 6 (GM (some .boolean) 1 6 Z) pc lf st h 0 0
abbrev Qc_X9_isDone (l : Launch) (Z : Option Value ⊕ String → HP → Prop) (pc : Nat) (lf : Nat → Option Value) (st : List Value) (h : HP) (ce sl : Nat) : Prop := Q l RX9 cX9_isDone 2 8 1 6 (GM (some .boolean) 1 6 Z) pc lf st h ce sl
abbrev V_X9_wouldChar (l : Launch) (As : List Value) (h : HP) (Z : Option Value ⊕ String → HP → Prop) : Prop := VM l yX9_wouldChar cX9_wouldChar 3 (some .int) 8 2 12 As h Z
abbrev Q_X9_wouldChar (l : Launch) (Z : Option Value ⊕ String → HP → Prop) (pc : Nat) (lf : Nat → Option Value) (st : List Value) (h : HP) : Prop := Q l RX9 cX9_wouldChar 3 8 2 12 (GM (some .int) 2 12 Z) pc lf st h 0 0
abbrev Qc_X9_wouldChar (l : Launch) (Z : Option Value ⊕ String → HP → Prop) (pc : Nat) (lf : Nat → Option Value) (st : List Value) (h : HP) (ce sl : Nat) : Prop := Q l RX9 cX9_wouldChar 3 8 2 12 (GM (some .int) 2 12 Z) pc lf st h ce sl
abbrev V_X9_wouldCharAgain (l : Launch) (As : List Value) (h : HP) (Z : Option Value ⊕ String → HP → Prop) : Prop := VM l yX9_wouldCharAgain cX9_wouldCharAgain 3 (some .int) 8 2 12 As h Z
abbrev Q_X9_wouldCharAgain (l : Launch) (Z : Option Value ⊕ String → HP → Prop) (pc : Nat) (lf : Nat → Option Value) (st : List Value) (h : HP) : Prop := Q l RX9 cX9_wouldCharAgain 3 8 2 12 (GM (some .int) 2 12 Z) pc lf st h 0 0
abbrev Qc_X9_wouldCharAgain (l : Launch) (Z : Option Value ⊕ String → HP → Prop) (pc : Nat) (lf : Nat → Option Value) (st : List Value) (h : HP) (ce sl : Nat) : Prop := Q l RX9 cX9_wouldCharAgain 3 8 2 12 (GM (some .int) 2 12 Z) pc lf st h ce sl
abbrev V_X9_burnsIn (l : Launch) (As : List Value) (h : HP) (Z : Option Value ⊕ String → HP → Prop) : Prop := VM l yX9_burnsIn cX9_burnsIn 2 (some .int) 8 2 12 As h Z
abbrev Q_X9_burnsIn (l : Launch) (Z : Option Value ⊕ String → HP → Prop) (pc : Nat) (lf : Nat → Option Value) (st : List Value) (h : HP) : Prop := Q l RX9 cX9_burnsIn 2 8 2 12 (GM (some .int) 2 12 Z) pc lf st h 0 0
abbrev Qc_X9_burnsIn (l : Launch) (Z : Option Value ⊕ String → HP → Prop) (pc : Nat) (lf : Nat → Option Value) (st : List Value) (h : HP) (ce sl : Nat) : Prop := Q l RX9 cX9_burnsIn 2 8 2 12 (GM (some .int) 2 12 Z) pc lf st h ce sl
abbrev V_X9_doneIn (l : Launch) (As : List Value) (h : HP) (Z : Option Value ⊕ String → HP → Prop) : Prop := VM l yX9_doneIn cX9_doneIn 2 (some .int) 8 2 12 As h Z
abbrev Q_X9_doneIn (l : Launch) (Z : Option Value ⊕ String → HP → Prop) (pc : Nat) (lf : Nat → Option Value) (st : List Value) (h : HP) : Prop := Q l RX9 cX9_doneIn 2 8 2 12 (GM (some .int) 2 12 Z) pc lf st h 0 0
abbrev Qc_X9_doneIn (l : Launch) (Z : Option Value ⊕ String → HP → Prop) (pc : Nat) (lf : Nat → Option Value) (st : List Value) (h : HP) (ce sl : Nat) : Prop := Q l RX9 cX9_doneIn 2 8 2 12 (GM (some .int) 2 12 Z) pc lf st h ce sl
abbrev V_X9_hottest (l : Launch) (As : List Value) (h : HP) (Z : Option Value ⊕ String → HP → Prop) : Prop := VM l yX9_hottest cX9_hottest 1 (some .int) 8 1 6 As h Z
abbrev Q_X9_hottest (l : Launch) (Z : Option Value ⊕ String → HP → Prop) (pc : Nat) (lf : Nat → Option Value) (st : List Value) (h : HP) : Prop := Q l RX9 cX9_hottest 1 8 1 6 (GM (some .int) 1 6 Z) pc lf st h 0 0
abbrev Qc_X9_hottest (l : Launch) (Z : Option Value ⊕ String → HP → Prop) (pc : Nat) (lf : Nat → Option Value) (st : List Value) (h : HP) (ce sl : Nat) : Prop := Q l RX9 cX9_hottest 1 8 1 6 (GM (some .int) 1 6 Z) pc lf st h ce sl
abbrev V_X9_bestHook (l : Launch) (As : List Value) (h : HP) (Z : Option Value ⊕ String → HP → Prop) : Prop := VM l yX9_bestHook cX9_bestHook 3 (some .int) 8 3 18 As h Z
abbrev Q_X9_bestHook (l : Launch) (Z : Option Value ⊕ String → HP → Prop) (pc : Nat) (lf : Nat → Option Value) (st : List Value) (h : HP) : Prop := Q l RX9 cX9_bestHook 3 8 3 18 (GM (some .int) 3 18 Z) pc lf st h 0 0
abbrev Qc_X9_bestHook (l : Launch) (Z : Option Value ⊕ String → HP → Prop) (pc : Nat) (lf : Nat → Option Value) (st : List Value) (h : HP) (ce sl : Nat) : Prop := Q l RX9 cX9_bestHook 3 8 3 18 (GM (some .int) 3 18 Z) pc lf st h ce sl
abbrev V_X9_crowded (l : Launch) (As : List Value) (h : HP) (Z : Option Value ⊕ String → HP → Prop) : Prop := VM l yX9_crowded cX9_crowded 3 (some .int) 3 0 0 As h Z
abbrev Q_X9_crowded (l : Launch) (Z : Option Value ⊕ String → HP → Prop) (pc : Nat) (lf : Nat → Option Value) (st : List Value) (h : HP) : Prop := Q l RX9 cX9_crowded 3 3 0 0 (GM (some .int) 0 0 Z) pc lf st h 0 0
abbrev V_X9_ranked (l : Launch) (As : List Value) (h : HP) (Z : Option Value ⊕ String → HP → Prop) : Prop := VM l yX9_ranked cX9_ranked 3 (some .int) 8 2 12 As h Z
abbrev Q_X9_ranked (l : Launch) (Z : Option Value ⊕ String → HP → Prop) (pc : Nat) (lf : Nat → Option Value) (st : List Value) (h : HP) : Prop := Q l RX9 cX9_ranked 3 8 2 12 (GM (some .int) 2 12 Z) pc lf st h 0 0
abbrev Qc_X9_ranked (l : Launch) (Z : Option Value ⊕ String → HP → Prop) (pc : Nat) (lf : Nat → Option Value) (st : List Value) (h : HP) (ce sl : Nat) : Prop := Q l RX9 cX9_ranked 3 8 2 12 (GM (some .int) 2 12 Z) pc lf st h ce sl
abbrev V_X9_append (l : Launch) (As : List Value) (h : HP) (Z : Option Value ⊕ String → HP → Prop) : Prop := VM l yX9_append cX9_append 2 (some .int) 7 1 6 As h Z
abbrev Q_X9_append (l : Launch) (Z : Option Value ⊕ String → HP → Prop) (pc : Nat) (lf : Nat → Option Value) (st : List Value) (h : HP) : Prop := Q l RX9 cX9_append 2 7 1 6 (GM (some .int) 1 6 Z) pc lf st h 0 0
abbrev Qc_X9_append (l : Launch) (Z : Option Value ⊕ String → HP → Prop) (pc : Nat) (lf : Nat → Option Value) (st : List Value) (h : HP) (ce sl : Nat) : Prop := Q l RX9 cX9_append 2 7 1 6 (GM (some .int) 1 6 Z) pc lf st h ce sl
abbrev V_X9_commands (l : Launch) (As : List Value) (h : HP) (Z : Option Value ⊕ String → HP → Prop) : Prop := VM l yX9_commands cX9_commands 3 (some .int) 7 1 6 As h Z
abbrev Q_X9_commands (l : Launch) (Z : Option Value ⊕ String → HP → Prop) (pc : Nat) (lf : Nat → Option Value) (st : List Value) (h : HP) : Prop := Q l RX9 cX9_commands 3 7 1 6 (GM (some .int) 1 6 Z) pc lf st h 0 0
abbrev Qc_X9_commands (l : Launch) (Z : Option Value ⊕ String → HP → Prop) (pc : Nat) (lf : Nat → Option Value) (st : List Value) (h : HP) (ce sl : Nat) : Prop := Q l RX9 cX9_commands 3 7 1 6 (GM (some .int) 1 6 Z) pc lf st h ce sl
abbrev V_X9_faultPosition (l : Launch) (As : List Value) (h : HP) (Z : Option Value ⊕ String → HP → Prop) : Prop := VM l yX9_faultPosition cX9_faultPosition 1 (some .int) 0 0 0 As h Z
abbrev Q_X9_faultPosition (l : Launch) (Z : Option Value ⊕ String → HP → Prop) (pc : Nat) (lf : Nat → Option Value) (st : List Value) (h : HP) : Prop := Q l RX9 cX9_faultPosition 1 0 0 0 (GM (some .int) 0 0 Z) pc lf st h 0 0
abbrev V_X9_reason (l : Launch) (As : List Value) (h : HP) (Z : Option Value ⊕ String → HP → Prop) : Prop := VM l yX9_reason cX9_reason 2 (some .int) 7 1 6 As h Z
abbrev Q_X9_reason (l : Launch) (Z : Option Value ⊕ String → HP → Prop) (pc : Nat) (lf : Nat → Option Value) (st : List Value) (h : HP) : Prop := Q l RX9 cX9_reason 2 7 1 6 (GM (some .int) 1 6 Z) pc lf st h 0 0
abbrev Qc_X9_reason (l : Launch) (Z : Option Value ⊕ String → HP → Prop) (pc : Nat) (lf : Nat → Option Value) (st : List Value) (h : HP) (ce sl : Nat) : Prop := Q l RX9 cX9_reason 2 7 1 6 (GM (some .int) 1 6 Z) pc lf st h ce sl
abbrev V_X9_rack (l : Launch) (As : List Value) (h : HP) (Z : Option Value ⊕ String → HP → Prop) : Prop := VM l yX9_rack cX9_rack 3 (some .int) 8 1 6 As h Z
abbrev Q_X9_rack (l : Launch) (Z : Option Value ⊕ String → HP → Prop) (pc : Nat) (lf : Nat → Option Value) (st : List Value) (h : HP) : Prop := Q l RX9 cX9_rack 3 8 1 6 (GM (some .int) 1 6 Z) pc lf st h 0 0
abbrev Qc_X9_rack (l : Launch) (Z : Option Value ⊕ String → HP → Prop) (pc : Nat) (lf : Nat → Option Value) (st : List Value) (h : HP) (ce sl : Nat) : Prop := Q l RX9 cX9_rack 3 8 1 6 (GM (some .int) 1 6 Z) pc lf st h ce sl
abbrev V_X9_line (l : Launch) (As : List Value) (h : HP) (Z : Option Value ⊕ String → HP → Prop) : Prop := VM l yX9_line cX9_line 4 (some .int) 8 1 6 As h Z
abbrev Q_X9_line (l : Launch) (Z : Option Value ⊕ String → HP → Prop) (pc : Nat) (lf : Nat → Option Value) (st : List Value) (h : HP) : Prop := Q l RX9 cX9_line 4 8 1 6 (GM (some .int) 1 6 Z) pc lf st h 0 0
abbrev Qc_X9_line (l : Launch) (Z : Option Value ⊕ String → HP → Prop) (pc : Nat) (lf : Nat → Option Value) (st : List Value) (h : HP) (ce sl : Nat) : Prop := Q l RX9 cX9_line 4 8 1 6 (GM (some .int) 1 6 Z) pc lf st h ce sl
abbrev V_X9_character (l : Launch) (As : List Value) (h : HP) (Z : Option Value ⊕ String → HP → Prop) : Prop := VM l yX9_character cX9_character 2 (some .char) 7 1 6 As h Z
abbrev Q_X9_character (l : Launch) (Z : Option Value ⊕ String → HP → Prop) (pc : Nat) (lf : Nat → Option Value) (st : List Value) (h : HP) : Prop := Q l RX9 cX9_character 2 7 1 6 (GM (some .char) 1 6 Z) pc lf st h 0 0
abbrev Qc_X9_character (l : Launch) (Z : Option Value ⊕ String → HP → Prop) (pc : Nat) (lf : Nat → Option Value) (st : List Value) (h : HP) (ce sl : Nat) : Prop := Q l RX9 cX9_character 2 7 1 6 (GM (some .char) 1 6 Z) pc lf st h ce sl
abbrev V_X9_meanSmoke (l : Launch) (As : List Value) (h : HP) (Z : Option Value ⊕ String → HP → Prop) : Prop := VM l yX9_meanSmoke cX9_meanSmoke 2 (some .int) 7 1 6 As h Z
abbrev Q_X9_meanSmoke (l : Launch) (Z : Option Value ⊕ String → HP → Prop) (pc : Nat) (lf : Nat → Option Value) (st : List Value) (h : HP) : Prop := Q l RX9 cX9_meanSmoke 2 7 1 6 (GM (some .int) 1 6 Z) pc lf st h 0 0
abbrev Qc_X9_meanSmoke (l : Launch) (Z : Option Value ⊕ String → HP → Prop) (pc : Nat) (lf : Nat → Option Value) (st : List Value) (h : HP) (ce sl : Nat) : Prop := Q l RX9 cX9_meanSmoke 2 7 1 6 (GM (some .int) 1 6 Z) pc lf st h ce sl
abbrev V_X9_burntShare (l : Launch) (As : List Value) (h : HP) (Z : Option Value ⊕ String → HP → Prop) : Prop := VM l yX9_burntShare cX9_burntShare 2 (some .double) 7 1 6 As h Z
abbrev Q_X9_burntShare (l : Launch) (Z : Option Value ⊕ String → HP → Prop) (pc : Nat) (lf : Nat → Option Value) (st : List Value) (h : HP) : Prop := Q l RX9 cX9_burntShare 2 7 1 6 (GM (some .double) 1 6 Z) pc lf st h 0 0
abbrev Qc_X9_burntShare (l : Launch) (Z : Option Value ⊕ String → HP → Prop) (pc : Nat) (lf : Nat → Option Value) (st : List Value) (h : HP) (ce sl : Nat) : Prop := Q l RX9 cX9_burntShare 2 7 1 6 (GM (some .double) 1 6 Z) pc lf st h ce sl
abbrev V_X9_account (l : Launch) (As : List Value) (h : HP) (Z : Option Value ⊕ String → HP → Prop) : Prop := VM l yX9_account cX9_account 2 (some .int) 7 1 6 As h Z
abbrev Q_X9_account (l : Launch) (Z : Option Value ⊕ String → HP → Prop) (pc : Nat) (lf : Nat → Option Value) (st : List Value) (h : HP) : Prop := Q l RX9 cX9_account 2 7 1 6 (GM (some .int) 1 6 Z) pc lf st h 0 0
abbrev Qc_X9_account (l : Launch) (Z : Option Value ⊕ String → HP → Prop) (pc : Nat) (lf : Nat → Option Value) (st : List Value) (h : HP) (ce sl : Nat) : Prop := Q l RX9 cX9_account 2 7 1 6 (GM (some .int) 1 6 Z) pc lf st h ce sl
abbrev V_X9_undo (l : Launch) (As : List Value) (h : HP) (Z : Option Value ⊕ String → HP → Prop) : Prop := VM l yX9_undo cX9_undo 1 (some .int) 7 1 6 As h Z
abbrev Q_X9_undo (l : Launch) (Z : Option Value ⊕ String → HP → Prop) (pc : Nat) (lf : Nat → Option Value) (st : List Value) (h : HP) : Prop := Q l RX9 cX9_undo 1 7 1 6 (GM (some .int) 1 6 Z) pc lf st h 0 0
abbrev Qc_X9_undo (l : Launch) (Z : Option Value ⊕ String → HP → Prop) (pc : Nat) (lf : Nat → Option Value) (st : List Value) (h : HP) (ce sl : Nat) : Prop := Q l RX9 cX9_undo 1 7 1 6 (GM (some .int) 1 6 Z) pc lf st h ce sl
abbrev V_X9_save (l : Launch) (As : List Value) (h : HP) (Z : Option Value ⊕ String → HP → Prop) : Prop := VM l yX9_save cX9_save 1 (some .int) 3 0 0 As h Z
abbrev Q_X9_save (l : Launch) (Z : Option Value ⊕ String → HP → Prop) (pc : Nat) (lf : Nat → Option Value) (st : List Value) (h : HP) : Prop := Q l RX9 cX9_save 1 3 0 0 (GM (some .int) 0 0 Z) pc lf st h 0 0
abbrev V_X9_restore (l : Launch) (As : List Value) (h : HP) (Z : Option Value ⊕ String → HP → Prop) : Prop := VM l yX9_restore cX9_restore 1 (some .int) 7 1 6 As h Z
abbrev Q_X9_restore (l : Launch) (Z : Option Value ⊕ String → HP → Prop) (pc : Nat) (lf : Nat → Option Value) (st : List Value) (h : HP) : Prop := Q l RX9 cX9_restore 1 7 1 6 (GM (some .int) 1 6 Z) pc lf st h 0 0
abbrev Qc_X9_restore (l : Launch) (Z : Option Value ⊕ String → HP → Prop) (pc : Nat) (lf : Nat → Option Value) (st : List Value) (h : HP) (ce sl : Nat) : Prop := Q l RX9 cX9_restore 1 7 1 6 (GM (some .int) 1 6 Z) pc lf st h ce sl
abbrev V_X9_settled (l : Launch) (As : List Value) (h : HP) (Z : Option Value ⊕ String → HP → Prop) : Prop := VM l yX9_settled cX9_settled 2 (some .int) 7 1 6 As h Z
abbrev Q_X9_settled (l : Launch) (Z : Option Value ⊕ String → HP → Prop) (pc : Nat) (lf : Nat → Option Value) (st : List Value) (h : HP) : Prop := Q l RX9 cX9_settled 2 7 1 6 (GM (some .int) 1 6 Z) pc lf st h 0 0
abbrev Qc_X9_settled (l : Launch) (Z : Option Value ⊕ String → HP → Prop) (pc : Nat) (lf : Nat → Option Value) (st : List Value) (h : HP) (ce sl : Nat) : Prop := Q l RX9 cX9_settled 2 7 1 6 (GM (some .int) 1 6 Z) pc lf st h ce sl
abbrev V_X9_needFish (l : Launch) (As : List Value) (h : HP) (Z : Option Value ⊕ String → HP → Prop) : Prop := VM l yX9_needFish cX9_needFish 2 none 7 1 6 As h Z
abbrev Q_X9_needFish (l : Launch) (Z : Option Value ⊕ String → HP → Prop) (pc : Nat) (lf : Nat → Option Value) (st : List Value) (h : HP) : Prop := Q l RX9 cX9_needFish 2 7 1 6 (GM none 1 6 Z) pc lf st h 0 0
abbrev Qc_X9_needFish (l : Launch) (Z : Option Value ⊕ String → HP → Prop) (pc : Nat) (lf : Nat → Option Value) (st : List Value) (h : HP) (ce sl : Nat) : Prop := Q l RX9 cX9_needFish 2 7 1 6 (GM none 1 6 Z) pc lf st h ce sl
abbrev V_X9_needRack (l : Launch) (As : List Value) (h : HP) (Z : Option Value ⊕ String → HP → Prop) : Prop := VM l yX9_needRack cX9_needRack 2 none 7 1 6 As h Z
abbrev Q_X9_needRack (l : Launch) (Z : Option Value ⊕ String → HP → Prop) (pc : Nat) (lf : Nat → Option Value) (st : List Value) (h : HP) : Prop := Q l RX9 cX9_needRack 2 7 1 6 (GM none 1 6 Z) pc lf st h 0 0
abbrev Qc_X9_needRack (l : Launch) (Z : Option Value ⊕ String → HP → Prop) (pc : Nat) (lf : Nat → Option Value) (st : List Value) (h : HP) (ce sl : Nat) : Prop := Q l RX9 cX9_needRack 2 7 1 6 (GM none 1 6 Z) pc lf st h ce sl
abbrev V_X9_needForecastHours (l : Launch) (As : List Value) (h : HP) (Z : Option Value ⊕ String → HP → Prop) : Prop := VM l yX9_needForecastHours cX9_needForecastHours 2 none 7 1 6 As h Z
abbrev Q_X9_needForecastHours (l : Launch) (Z : Option Value ⊕ String → HP → Prop) (pc : Nat) (lf : Nat → Option Value) (st : List Value) (h : HP) : Prop := Q l RX9 cX9_needForecastHours 2 7 1 6 (GM none 1 6 Z) pc lf st h 0 0
abbrev Qc_X9_needForecastHours (l : Launch) (Z : Option Value ⊕ String → HP → Prop) (pc : Nat) (lf : Nat → Option Value) (st : List Value) (h : HP) (ce sl : Nat) : Prop := Q l RX9 cX9_needForecastHours 2 7 1 6 (GM none 1 6 Z) pc lf st h ce sl
abbrev V_X9_found (l : Launch) (As : List Value) (h : HP) (Z : Option Value ⊕ String → HP → Prop) : Prop := VM l yX9_found cX9_found 2 (some .int) 7 1 6 As h Z
abbrev Q_X9_found (l : Launch) (Z : Option Value ⊕ String → HP → Prop) (pc : Nat) (lf : Nat → Option Value) (st : List Value) (h : HP) : Prop := Q l RX9 cX9_found 2 7 1 6 (GM (some .int) 1 6 Z) pc lf st h 0 0
abbrev Qc_X9_found (l : Launch) (Z : Option Value ⊕ String → HP → Prop) (pc : Nat) (lf : Nat → Option Value) (st : List Value) (h : HP) (ce sl : Nat) : Prop := Q l RX9 cX9_found 2 7 1 6 (GM (some .int) 1 6 Z) pc lf st h ce sl
abbrev V_X9_bitsOf (l : Launch) (As : List Value) (h : HP) (Z : Option Value ⊕ String → HP → Prop) : Prop := VM l yX9_bitsOf cX9_bitsOf 4 (some .int) 0 0 0 As h Z
abbrev Q_X9_bitsOf (l : Launch) (Z : Option Value ⊕ String → HP → Prop) (pc : Nat) (lf : Nat → Option Value) (st : List Value) (h : HP) : Prop := Q l RX9 cX9_bitsOf 4 0 0 0 (GM (some .int) 0 0 Z) pc lf st h 0 0
abbrev UOE : String := "java/lang/UnsupportedOperationException"
abbrev IOB : String := "java/lang/IndexOutOfBoundsException"
abbrev IAE : String := "java/lang/IllegalArgumentException"
abbrev NSE : String := "java/util/NoSuchElementException"
abbrev ISE : String := "java/lang/IllegalStateException"
abbrev ARE : String := "java/lang/ArithmeticException"
/-- it throws E, and leaves h1 -/
abbrev ZE (E : String) (h1 : HP) : Option Value ⊕ String → HP → Prop := fun o h2 => o = .inr E ∧ h2 = h1
def wCar (M : MM) (n : Nat) : Int32 × MM :=
  if M 460 5 = 97 then wTrk M n (M 460 6) else if M 460 5 = 98 then wBri M n (M 460 6) else if M 460 5 = 100 then wDay M n else if M 460 5 = 102 then wLet M n (M 460 6) else if M 460 5 = 104 then wHan M n (M 460 6) (M 460 7) (M 460 8) else if M 460 5 = 108 then wLog M (M 460 6) else if M 460 5 = 110 then wHrs M n (M 460 6) else if M 460 5 = 111 then wOut M (M 460 6) else if M 460 5 = 115 then wSel M n (M 460 6) else if M 460 5 = 116 then wTur M (M 460 6) else if M 460 5 = 119 then wWoo M (M 460 6) else wDis M n (M 460 6)
section RT
variable {l : Launch} {own : String} {cc : ByteArray} {nL d mc ms : Nat} {G : GT} {pc : Nat} {lf lf' : Nat → Option Value} {st : List Value} {M : MM} {r : MR} {ce sl : Nat}
/-- a call that may throw, but doesn't here -/
theorem G_tV1 {h h1 : HP} {y : MethodName} {bytes : ByteArray} {maxL idx d' mc' ms' a ci : Nat} {ret : Option FieldType} {fs : List Value} {T : u_T} {N : Nat} {v v0 : Value} (cw : CWV own idx y bytes maxL ret 1) (hM : VM l y bytes maxL ret d' mc' ms' [.ref a, v0] h (VR (some v) h1)) (hd : decode cc pc = .ok (.invokevirtual idx, 3)) (hr : CLs[ci]? = some (y.cls, T, N) ∧ h.2 a = .inr (ci, fs) ∧ a < h.1)
    (hn : d' + 1 ≤ d ∧ ce + mc' ≤ mc ∧ sl + ms' ≤ ms ∧ (st.map fun v => v.category).sum ≤ 8) (kk : Q l own cc nL d mc ms G (pc + 3) lf (v :: st) h1 (ce + mc') (sl + ms')) : Q l own cc nL d mc ms G pc lf (v0 :: .ref a :: st) h ce sl :=
  R_callV (As := [v0]) cw hM hd hr.1 hr.2.1 hr.2.2 hn.1 hn.2.1 hn.2.2.1 rfl rfl hn.2.2.2 (fun v9 h9 hz => by obtain ⟨e1, rfl⟩ := hz; cases e1; exact kk) (fun E h9 hz => by cases hz.1)
theorem G_tV1v {h h1 : HP} {y : MethodName} {bytes : ByteArray} {maxL idx d' mc' ms' a ci : Nat} {ret : Option FieldType} {fs : List Value} {T : u_T} {N : Nat} {v0 : Value} (cw : CWV own idx y bytes maxL ret 1) (hM : VM l y bytes maxL ret d' mc' ms' [.ref a, v0] h (VR none h1)) (hd : decode cc pc = .ok (.invokevirtual idx, 3)) (hr : CLs[ci]? = some (y.cls, T, N) ∧ h.2 a = .inr (ci, fs) ∧ a < h.1)
    (hn : d' + 1 ≤ d ∧ ce + mc' ≤ mc ∧ sl + ms' ≤ ms ∧ (st.map fun v => v.category).sum ≤ 8) (kk : Q l own cc nL d mc ms G (pc + 3) lf st h1 (ce + mc') (sl + ms')) : Q l own cc nL d mc ms G pc lf (v0 :: .ref a :: st) h ce sl :=
  R_callV (As := [v0]) cw hM hd hr.1 hr.2.1 hr.2.2 hn.1 hn.2.1 hn.2.2.1 rfl rfl hn.2.2.2 (fun v9 h9 hz => by obtain ⟨e1, rfl⟩ := hz; cases e1; exact kk) (fun E h9 hz => by cases hz.1)
/-- a call that throws: so does this method -/
theorem G_xV1 {h h1 : HP} {y : MethodName} {bytes : ByteArray} {maxL idx d' mc' ms' a ci : Nat} {ret ret' : Option FieldType} {fs : List Value} {T : u_T} {N : Nat} {v0 : Value} {E : String} {Z : Option Value ⊕ String → HP → Prop} (cw : CWV own idx y bytes maxL ret 1) (hM : VM l y bytes maxL ret d' mc' ms' [.ref a, v0] h (ZE E h1)) (hd : decode cc pc = .ok (.invokevirtual idx, 3)) (hr : CLs[ci]? = some (y.cls, T, N) ∧ h.2 a = .inr (ci, fs) ∧ a < h.1)
    (hn : d' + 1 ≤ d ∧ ce + mc' ≤ mc ∧ sl + ms' ≤ ms ∧ (st.map fun v => v.category).sum ≤ 8) (hz9 : Z (.inr E) h1) : Q l own cc nL d mc ms (GM ret' mc ms Z) pc lf (v0 :: .ref a :: st) h ce sl :=
  R_callV (As := [v0]) cw hM hd hr.1 hr.2.1 hr.2.2 hn.1 hn.2.1 hn.2.2.1 rfl rfl hn.2.2.2 (fun v9 h9 hz => by cases hz.1) (fun E h9 hz => by obtain ⟨e1, rfl⟩ := hz; cases e1; exact R_prop hn.2.1 hn.2.2.1 hz9)
end RT
/-- outside of the house's cells and the reason's, a change writes nothing -/
def outW (M M' : MM) : Prop := ∀ x, (x = 0 ∨ (42 ≤ x ∧ x ≠ 454)) → M' x = M x
theorem outW_rf {M : MM} : outW M M := fun _ _ => rfl
theorem outW_st {M M' : MM} {a k : Nat} {v : Int32} (ha : (1 ≤ a ∧ a < 42) ∨ a = 454) (h : outW M M') : outW M (mst M' a k v) := fun x hx => by
  rw [mst_fn (by omega)]
  exact h x hx
theorem outW_tr {M M1 M2 : MM} (h : outW M M1) (h2 : outW M1 M2) : outW M M2 := fun x hx => (h2 x hx).trans (h x hx)
theorem outW_ks {M M' : MM} {p q : Int32} (h : outW M M') : outW M (ksR M' p q) := outW_st (by omega) (outW_st (by omega) (outW_st (by omega) (outW_st (by omega) h)))
theorem outW_mv {M M' : MM} {k : Nat} {p q s : Int32} (hk : k < 12) (h : outW M M') : outW M (mvT M' (6 + 3 * k) p q s) := outW_st (by omega) (outW_st (by omega) (outW_st (by omega) (outW_st (by omega) h)))
theorem outW_tur {M : MM} {p : Int32} {i : Nat} (hi : i ≤ 12) : outW M (turR M p i) := fun x hx => turR_fr i (by omega)
theorem outW_day {M : MM} {i : Nat} (hi : i ≤ 12) : outW M (dayR M i) := fun x hx => dayR_fr i (by omega)
theorem outW_hour {M : MM} {n : Nat} (hn : n ≤ 12) : outW M (hour M 1 n) := outW_st (by omega) (outW_st (by omega) (fun x hx => hrF_fr n (by omega)))
theorem outW_hrs {M : MM} {n : Nat} (hn : n ≤ 12) : ∀ i, outW M (hrsR M n i)
  | 0 => outW_rf
  | i + 1 => outW_tr (outW_hrs hn i) (outW_hour hn)
theorem outW_rm {M M' : MM} {k n : Nat} (hk : k < n) (hn : n ≤ 12) (h : outW M M') : outW M (hrm M' 1 k (n - 1 - k)) := outW_tr h (fun x hx => (hrm_fr (n - 1 - k) (by omega)).trans (mst_fn (by omega)))
theorem outW_beg {M : MM} {k : Nat} {v : Int32} (hk : k < 12) : outW M (fbeg M (6 + 3 * k) v) := fun x hx => by
  funext j
  simp only [fbeg]
  rw [if_neg (by omega), if_neg (by omega)]
theorem outW_Let {M : MM} {n : Nat} {v : Int32} (hn : n ≤ 12) : outW M (wLet M n v).2 := by
  unfold wLet
  split
  · exact outW_ks outW_rf
  · split
    · exact outW_st (by omega) (outW_beg (by omega))
    · exact outW_ks outW_rf
theorem fx_k {M : MM} {n : Nat} {x : Int32} (hc : M 1 2 = nI n) (hn : n ≤ 12) (h : ¬ hasB M 1 x = false) : ∃ k, k < n ∧ x = nI k ∧ fx x = 6 + 3 * k ∧ x.toNatClampNeg = k := by
  obtain ⟨k, hk, rfl⟩ := has_k hc hn (by simpa using h)
  exact ⟨k, hk, rfl, by rw [fx, nI_cl (by omega)], nI_cl (by omega)⟩
theorem outW_Bri {M : MM} {n : Nat} {x : Int32} (hc : M 1 2 = nI n) (hn : n ≤ 12) : outW M (wBri M n x).2 := by
  unfold wBri
  split
  · exact outW_ks outW_rf
  · rename_i h
    obtain ⟨k, hk, -, e, -⟩ := fx_k hc hn h
    rw [e]
    split
    · exact outW_mv (by omega) outW_rf
    · exact outW_ks outW_rf
theorem outW_Out {M : MM} {n : Nat} {x : Int32} (hc : M 1 2 = nI n) (hn : n ≤ 12) : outW M (wOut M x).2 := by
  unfold wOut
  split
  · exact outW_ks outW_rf
  · rename_i h
    obtain ⟨k, hk, -, e, -⟩ := fx_k hc hn h
    rw [e]
    split
    · exact outW_ks outW_rf
    · exact outW_mv (by omega) outW_rf
theorem outW_Han {M : MM} {n : Nat} {x p q : Int32} (hc : M 1 2 = nI n) (hn : n ≤ 12) : outW M (wHan M n x p q).2 := by
  unfold wHan
  split
  · exact outW_ks outW_rf
  · split
    · exact outW_ks outW_rf
    · rename_i h
      obtain ⟨k, hk, -, e, -⟩ := fx_k hc hn h
      rw [e]
      split
      · split
        · exact outW_mv (by omega) outW_rf
        · exact outW_ks outW_rf
      · exact outW_ks outW_rf
theorem outW_Tur {M : MM} {n : Nat} {x : Int32} (hc : M 1 2 = nI n) (hn : n ≤ 12) : outW M (wTur M x).2 := by
  unfold wTur
  split
  · exact outW_ks outW_rf
  · rename_i h
    obtain ⟨k, hk, -, e, -⟩ := fx_k hc hn h
    rw [e]
    split
    · exact outW_st (by omega) (outW_st (by omega) outW_rf)
    · exact outW_ks outW_rf
theorem outW_Trk {M : MM} {n : Nat} {p : Int32} (hn : n ≤ 12) : outW M (wTrk M n p).2 := by
  unfold wTrk
  split
  · exact outW_ks outW_rf
  · split
    · exact outW_ks outW_rf
    · exact outW_tur hn
theorem outW_Log {M : MM} {v : Int32} : outW M (wLog M v).2 := by
  unfold wLog
  split
  · exact outW_ks outW_rf
  · split
    · exact outW_ks outW_rf
    · exact outW_st (by omega) outW_rf
theorem outW_Woo {M : MM} {v : Int32} : outW M (wWoo M v).2 := by
  unfold wWoo
  split
  · exact outW_ks outW_rf
  · split
    · exact outW_ks outW_rf
    · exact outW_st (by omega) outW_rf
theorem outW_Day {M : MM} {n : Nat} (hn : n ≤ 12) : outW M (wDay M n).2 := by
  unfold wDay
  split
  · exact outW_ks outW_rf
  · exact outW_st (by omega) (outW_day hn)
theorem outW_Hrs {M : MM} {n : Nat} {v : Int32} (hn : n ≤ 12) : outW M (wHrs M n v).2 := by
  unfold wHrs
  split
  · exact outW_ks outW_rf
  · exact outW_hrs hn _
theorem outW_Sel {M : MM} {n : Nat} {x : Int32} (hc : M 1 2 = nI n) (hn : n ≤ 12) : outW M (wSel M n x).2 := by
  unfold wSel
  split
  · exact outW_ks outW_rf
  · rename_i h
    obtain ⟨k, hk, -, e, ek⟩ := fx_k hc hn h
    rw [e, ek]
    split
    · exact outW_ks outW_rf
    · exact outW_rm hk hn (outW_st (by omega) (outW_st (by omega) outW_rf))
theorem outW_Dis {M : MM} {n : Nat} {x : Int32} (hc : M 1 2 = nI n) (hn : n ≤ 12) : outW M (wDis M n x).2 := by
  unfold wDis
  split
  · exact outW_ks outW_rf
  · rename_i h
    obtain ⟨k, hk, -, e, ek⟩ := fx_k hc hn h
    rw [e, ek]
    exact outW_rm hk hn (outW_st (by omega) outW_rf)
def keepM (M : MM) (p : Nat → Nat) (n : Nat) : MM := mst (hcp M (p 7) 42 n) 124 1 (am (M 124 1 + 1) 8)
/-- what a change ends with -/
def setZ (x : Int32) (M : MM) (r : MR) (n : Nat) : Option Value ⊕ String → HP → Prop := if x = -1 then ZE UOE (hp M r) else VI x (hp (keepM M r.1 n) (rotR r.1, r.2))
/-- the turned flags of the first n fish of a house -/
def flg (M : MM) (b n : Nat) : Prop := ∀ i, i < n → M (b + 5 + 3 * i) 8 = 0 ∨ M (b + 5 + 3 * i) 8 = 1
def prm (p : Nat → Nat) : Prop := ∀ k, k < 8 → isH (p k) ∧ 126 ≤ p k
section P17
variable {M : MM} {r : MR}
theorem s_X8_carryOut {l : Launch} (hf : l.stackTraces = false) {n : Nat} (hn : n ≤ 12) (hc : M 1 2 = nI n) (hz : ∀ i, i < n → M (6 + 3 * i) 8 = 0 ∨ M (6 + 3 * i) 8 = 1) : V_X8_carryOut l [.ref 455, .ref 460] (hp M r) (VI (wCar M n).1 (hp (wCar M n).2 r)) := by
  refine VM.intro (lf := L9 (some (.ref 455)) (some (.ref 460)) none none none none none none none) (by decide +kernel) hf (fun _ => (Nat.le_of_ble_eq_true rfl)) (fun _ => rfl) ?_
  refine R_aload_n dX8_carryOut_0 rfl rfl ?_
  refine G_get cok6 5 wf_X8_133 dX8_carryOut_1 (by first | exact rfl | assumption) ⟨(Nat.le_of_ble_eq_true rfl), (Nat.le_of_ble_eq_true rfl)⟩ rfl ?_
  by_cases e0 : M 460 5 = 97
  · refine R_topE e0 ?_
    refine R_tableIn (tgt := 165) dX8_carryOut_4 (by decide) (by decide) rfl rfl ?_
    refine R_aload_n dX8_carryOut_165 rfl rfl ?_
    refine R_aload_n dX8_carryOut_166 rfl rfl ?_
    refine G_get cok6 6 wf_X8_139 dX8_carryOut_167 (by first | exact rfl | assumption) ⟨(Nat.le_of_ble_eq_true rfl), (Nat.le_of_ble_eq_true rfl)⟩ rfl ?_
    refine G_cV1 cw_X8_162 (s_X8_turnRack hf hn hc) dX8_carryOut_170 (rcv cok8 (by first | exact rfl | assumption) (Nat.le_of_ble_eq_true rfl)) ⟨(Nat.le_of_ble_eq_true rfl), (Nat.le_of_ble_eq_true rfl), (Nat.le_of_ble_eq_true rfl), (Nat.le_of_ble_eq_true rfl)⟩ ?_
    refine R_iret dX8_carryOut_173 rfl (Nat.le_of_ble_eq_true rfl) (Nat.le_of_ble_eq_true rfl) ?_
    have e99 : wCar M n = wTrk M n (M 460 6) := by unfold wCar; simp [*]
    rw [e99]
    exact ⟨rfl, rfl⟩
  · by_cases e1 : M 460 5 = 98
    · refine R_topE e1 ?_
      refine R_tableIn (tgt := 121) dX8_carryOut_4 (by decide) (by decide) rfl rfl ?_
      refine R_aload_n dX8_carryOut_121 rfl rfl ?_
      refine R_aload_n dX8_carryOut_122 rfl rfl ?_
      refine G_get cok6 6 wf_X8_139 dX8_carryOut_123 (by first | exact rfl | assumption) ⟨(Nat.le_of_ble_eq_true rfl), (Nat.le_of_ble_eq_true rfl)⟩ rfl ?_
      refine G_cV1 cw_X8_145 (s_X8_layIntoBrine hf hn hc) dX8_carryOut_126 (rcv cok8 (by first | exact rfl | assumption) (Nat.le_of_ble_eq_true rfl)) ⟨(Nat.le_of_ble_eq_true rfl), (Nat.le_of_ble_eq_true rfl), (Nat.le_of_ble_eq_true rfl), (Nat.le_of_ble_eq_true rfl)⟩ ?_
      refine R_iret dX8_carryOut_129 rfl (Nat.le_of_ble_eq_true rfl) (Nat.le_of_ble_eq_true rfl) ?_
      have e99 : wCar M n = wBri M n (M 460 6) := by unfold wCar; simp [*]
      rw [e99]
      exact ⟨rfl, rfl⟩
    · by_cases e2 : M 460 5 = 99
      · refine R_topE e2 ?_
        refine R_tableIn (tgt := 215) dX8_carryOut_4 (by decide) (by decide) rfl rfl ?_
        refine R_aload_n dX8_carryOut_215 rfl rfl ?_
        refine R_aload_n dX8_carryOut_216 rfl rfl ?_
        refine G_get cok6 6 wf_X8_139 dX8_carryOut_217 (by first | exact rfl | assumption) ⟨(Nat.le_of_ble_eq_true rfl), (Nat.le_of_ble_eq_true rfl)⟩ rfl ?_
        refine G_cV1 cw_X8_180 (s_X8_discard hf hn hc hz) dX8_carryOut_220 (rcv cok8 (by first | exact rfl | assumption) (Nat.le_of_ble_eq_true rfl)) ⟨(Nat.le_of_ble_eq_true rfl), (Nat.le_of_ble_eq_true rfl), (Nat.le_of_ble_eq_true rfl), (Nat.le_of_ble_eq_true rfl)⟩ ?_
        refine R_iret dX8_carryOut_223 rfl (Nat.le_of_ble_eq_true rfl) (Nat.le_of_ble_eq_true rfl) ?_
        have e99 : wCar M n = wDis M n (M 460 6) := by unfold wCar; simp [*]
        rw [e99]
        exact ⟨rfl, rfl⟩
      · by_cases e3 : M 460 5 = 100
        · refine R_topE e3 ?_
          refine R_tableIn (tgt := 192) dX8_carryOut_4 (by decide) (by decide) rfl rfl ?_
          refine R_aload_n dX8_carryOut_192 rfl rfl ?_
          refine G_cV0 cw_X8_171 (s_X8_passDay hf hn hc) dX8_carryOut_193 (rcv cok8 (by first | exact rfl | assumption) (Nat.le_of_ble_eq_true rfl)) ⟨(Nat.le_of_ble_eq_true rfl), (Nat.le_of_ble_eq_true rfl), (Nat.le_of_ble_eq_true rfl), (Nat.le_of_ble_eq_true rfl)⟩ ?_
          refine R_iret dX8_carryOut_196 rfl (Nat.le_of_ble_eq_true rfl) (Nat.le_of_ble_eq_true rfl) ?_
          have e99 : wCar M n = wDay M n := by unfold wCar; simp [*]
          rw [e99]
          exact ⟨rfl, rfl⟩
        · by_cases e4 : M 460 5 = 101
          · refine R_topE e4 ?_
            refine R_tableIn (tgt := 215) dX8_carryOut_4 (by decide) (by decide) rfl rfl ?_
            refine R_aload_n dX8_carryOut_215 rfl rfl ?_
            refine R_aload_n dX8_carryOut_216 rfl rfl ?_
            refine G_get cok6 6 wf_X8_139 dX8_carryOut_217 (by first | exact rfl | assumption) ⟨(Nat.le_of_ble_eq_true rfl), (Nat.le_of_ble_eq_true rfl)⟩ rfl ?_
            refine G_cV1 cw_X8_180 (s_X8_discard hf hn hc hz) dX8_carryOut_220 (rcv cok8 (by first | exact rfl | assumption) (Nat.le_of_ble_eq_true rfl)) ⟨(Nat.le_of_ble_eq_true rfl), (Nat.le_of_ble_eq_true rfl), (Nat.le_of_ble_eq_true rfl), (Nat.le_of_ble_eq_true rfl)⟩ ?_
            refine R_iret dX8_carryOut_223 rfl (Nat.le_of_ble_eq_true rfl) (Nat.le_of_ble_eq_true rfl) ?_
            have e99 : wCar M n = wDis M n (M 460 6) := by unfold wCar; simp [*]
            rw [e99]
            exact ⟨rfl, rfl⟩
          · by_cases e5 : M 460 5 = 102
            · refine R_topE e5 ?_
              refine R_tableIn (tgt := 112) dX8_carryOut_4 (by decide) (by decide) rfl rfl ?_
              refine R_aload_n dX8_carryOut_112 rfl rfl ?_
              refine R_aload_n dX8_carryOut_113 rfl rfl ?_
              refine G_get cok6 6 wf_X8_139 dX8_carryOut_114 (by first | exact rfl | assumption) ⟨(Nat.le_of_ble_eq_true rfl), (Nat.le_of_ble_eq_true rfl)⟩ rfl ?_
              refine G_cV1 cw_X8_142 (s_X8_letCome hf hn hc) dX8_carryOut_117 (rcv cok8 (by first | exact rfl | assumption) (Nat.le_of_ble_eq_true rfl)) ⟨(Nat.le_of_ble_eq_true rfl), (Nat.le_of_ble_eq_true rfl), (Nat.le_of_ble_eq_true rfl), (Nat.le_of_ble_eq_true rfl)⟩ ?_
              refine R_iret dX8_carryOut_120 rfl (Nat.le_of_ble_eq_true rfl) (Nat.le_of_ble_eq_true rfl) ?_
              have e99 : wCar M n = wLet M n (M 460 6) := by unfold wCar; simp [*]
              rw [e99]
              exact ⟨rfl, rfl⟩
            · by_cases e6 : M 460 5 = 103
              · refine R_topE e6 ?_
                refine R_tableIn (tgt := 215) dX8_carryOut_4 (by decide) (by decide) rfl rfl ?_
                refine R_aload_n dX8_carryOut_215 rfl rfl ?_
                refine R_aload_n dX8_carryOut_216 rfl rfl ?_
                refine G_get cok6 6 wf_X8_139 dX8_carryOut_217 (by first | exact rfl | assumption) ⟨(Nat.le_of_ble_eq_true rfl), (Nat.le_of_ble_eq_true rfl)⟩ rfl ?_
                refine G_cV1 cw_X8_180 (s_X8_discard hf hn hc hz) dX8_carryOut_220 (rcv cok8 (by first | exact rfl | assumption) (Nat.le_of_ble_eq_true rfl)) ⟨(Nat.le_of_ble_eq_true rfl), (Nat.le_of_ble_eq_true rfl), (Nat.le_of_ble_eq_true rfl), (Nat.le_of_ble_eq_true rfl)⟩ ?_
                refine R_iret dX8_carryOut_223 rfl (Nat.le_of_ble_eq_true rfl) (Nat.le_of_ble_eq_true rfl) ?_
                have e99 : wCar M n = wDis M n (M 460 6) := by unfold wCar; simp [*]
                rw [e99]
                exact ⟨rfl, rfl⟩
              · by_cases e7 : M 460 5 = 104
                · refine R_topE e7 ?_
                  refine R_tableIn (tgt := 139) dX8_carryOut_4 (by decide) (by decide) rfl rfl ?_
                  refine R_aload_n dX8_carryOut_139 rfl rfl ?_
                  refine R_aload_n dX8_carryOut_140 rfl rfl ?_
                  refine G_get cok6 6 wf_X8_139 dX8_carryOut_141 (by first | exact rfl | assumption) ⟨(Nat.le_of_ble_eq_true rfl), (Nat.le_of_ble_eq_true rfl)⟩ rfl ?_
                  refine R_aload_n dX8_carryOut_144 rfl rfl ?_
                  refine G_get cok6 7 wf_X8_151 dX8_carryOut_145 (by first | exact rfl | assumption) ⟨(Nat.le_of_ble_eq_true rfl), (Nat.le_of_ble_eq_true rfl)⟩ rfl ?_
                  refine R_aload_n dX8_carryOut_148 rfl rfl ?_
                  refine G_get cok6 8 wf_X8_152 dX8_carryOut_149 (by first | exact rfl | assumption) ⟨(Nat.le_of_ble_eq_true rfl), (Nat.le_of_ble_eq_true rfl)⟩ rfl ?_
                  refine G_cV3 cw_X8_155 (s_X8_hangUp hf hn hc) dX8_carryOut_152 (rcv cok8 (by first | exact rfl | assumption) (Nat.le_of_ble_eq_true rfl)) ⟨(Nat.le_of_ble_eq_true rfl), (Nat.le_of_ble_eq_true rfl), (Nat.le_of_ble_eq_true rfl), (Nat.le_of_ble_eq_true rfl)⟩ ?_
                  refine R_iret dX8_carryOut_155 rfl (Nat.le_of_ble_eq_true rfl) (Nat.le_of_ble_eq_true rfl) ?_
                  have e99 : wCar M n = wHan M n (M 460 6) (M 460 7) (M 460 8) := by unfold wCar; simp [*]
                  rw [e99]
                  exact ⟨rfl, rfl⟩
                · by_cases e8 : M 460 5 = 105
                  · refine R_topE e8 ?_
                    refine R_tableIn (tgt := 215) dX8_carryOut_4 (by decide) (by decide) rfl rfl ?_
                    refine R_aload_n dX8_carryOut_215 rfl rfl ?_
                    refine R_aload_n dX8_carryOut_216 rfl rfl ?_
                    refine G_get cok6 6 wf_X8_139 dX8_carryOut_217 (by first | exact rfl | assumption) ⟨(Nat.le_of_ble_eq_true rfl), (Nat.le_of_ble_eq_true rfl)⟩ rfl ?_
                    refine G_cV1 cw_X8_180 (s_X8_discard hf hn hc hz) dX8_carryOut_220 (rcv cok8 (by first | exact rfl | assumption) (Nat.le_of_ble_eq_true rfl)) ⟨(Nat.le_of_ble_eq_true rfl), (Nat.le_of_ble_eq_true rfl), (Nat.le_of_ble_eq_true rfl), (Nat.le_of_ble_eq_true rfl)⟩ ?_
                    refine R_iret dX8_carryOut_223 rfl (Nat.le_of_ble_eq_true rfl) (Nat.le_of_ble_eq_true rfl) ?_
                    have e99 : wCar M n = wDis M n (M 460 6) := by unfold wCar; simp [*]
                    rw [e99]
                    exact ⟨rfl, rfl⟩
                  · by_cases e9 : M 460 5 = 106
                    · refine R_topE e9 ?_
                      refine R_tableIn (tgt := 215) dX8_carryOut_4 (by decide) (by decide) rfl rfl ?_
                      refine R_aload_n dX8_carryOut_215 rfl rfl ?_
                      refine R_aload_n dX8_carryOut_216 rfl rfl ?_
                      refine G_get cok6 6 wf_X8_139 dX8_carryOut_217 (by first | exact rfl | assumption) ⟨(Nat.le_of_ble_eq_true rfl), (Nat.le_of_ble_eq_true rfl)⟩ rfl ?_
                      refine G_cV1 cw_X8_180 (s_X8_discard hf hn hc hz) dX8_carryOut_220 (rcv cok8 (by first | exact rfl | assumption) (Nat.le_of_ble_eq_true rfl)) ⟨(Nat.le_of_ble_eq_true rfl), (Nat.le_of_ble_eq_true rfl), (Nat.le_of_ble_eq_true rfl), (Nat.le_of_ble_eq_true rfl)⟩ ?_
                      refine R_iret dX8_carryOut_223 rfl (Nat.le_of_ble_eq_true rfl) (Nat.le_of_ble_eq_true rfl) ?_
                      have e99 : wCar M n = wDis M n (M 460 6) := by unfold wCar; simp [*]
                      rw [e99]
                      exact ⟨rfl, rfl⟩
                    · by_cases e10 : M 460 5 = 107
                      · refine R_topE e10 ?_
                        refine R_tableIn (tgt := 215) dX8_carryOut_4 (by decide) (by decide) rfl rfl ?_
                        refine R_aload_n dX8_carryOut_215 rfl rfl ?_
                        refine R_aload_n dX8_carryOut_216 rfl rfl ?_
                        refine G_get cok6 6 wf_X8_139 dX8_carryOut_217 (by first | exact rfl | assumption) ⟨(Nat.le_of_ble_eq_true rfl), (Nat.le_of_ble_eq_true rfl)⟩ rfl ?_
                        refine G_cV1 cw_X8_180 (s_X8_discard hf hn hc hz) dX8_carryOut_220 (rcv cok8 (by first | exact rfl | assumption) (Nat.le_of_ble_eq_true rfl)) ⟨(Nat.le_of_ble_eq_true rfl), (Nat.le_of_ble_eq_true rfl), (Nat.le_of_ble_eq_true rfl), (Nat.le_of_ble_eq_true rfl)⟩ ?_
                        refine R_iret dX8_carryOut_223 rfl (Nat.le_of_ble_eq_true rfl) (Nat.le_of_ble_eq_true rfl) ?_
                        have e99 : wCar M n = wDis M n (M 460 6) := by unfold wCar; simp [*]
                        rw [e99]
                        exact ⟨rfl, rfl⟩
                      · by_cases e11 : M 460 5 = 108
                        · refine R_topE e11 ?_
                          refine R_tableIn (tgt := 174) dX8_carryOut_4 (by decide) (by decide) rfl rfl ?_
                          refine R_aload_n dX8_carryOut_174 rfl rfl ?_
                          refine R_aload_n dX8_carryOut_175 rfl rfl ?_
                          refine G_get cok6 6 wf_X8_139 dX8_carryOut_176 (by first | exact rfl | assumption) ⟨(Nat.le_of_ble_eq_true rfl), (Nat.le_of_ble_eq_true rfl)⟩ rfl ?_
                          refine G_cV1 cw_X8_165 (s_X8_layLogs hf hn hc) dX8_carryOut_179 (rcv cok8 (by first | exact rfl | assumption) (Nat.le_of_ble_eq_true rfl)) ⟨(Nat.le_of_ble_eq_true rfl), (Nat.le_of_ble_eq_true rfl), (Nat.le_of_ble_eq_true rfl), (Nat.le_of_ble_eq_true rfl)⟩ ?_
                          refine R_iret dX8_carryOut_182 rfl (Nat.le_of_ble_eq_true rfl) (Nat.le_of_ble_eq_true rfl) ?_
                          have e99 : wCar M n = wLog M (M 460 6) := by unfold wCar; simp [*]
                          rw [e99]
                          exact ⟨rfl, rfl⟩
                        · by_cases e12 : M 460 5 = 109
                          · refine R_topE e12 ?_
                            refine R_tableIn (tgt := 215) dX8_carryOut_4 (by decide) (by decide) rfl rfl ?_
                            refine R_aload_n dX8_carryOut_215 rfl rfl ?_
                            refine R_aload_n dX8_carryOut_216 rfl rfl ?_
                            refine G_get cok6 6 wf_X8_139 dX8_carryOut_217 (by first | exact rfl | assumption) ⟨(Nat.le_of_ble_eq_true rfl), (Nat.le_of_ble_eq_true rfl)⟩ rfl ?_
                            refine G_cV1 cw_X8_180 (s_X8_discard hf hn hc hz) dX8_carryOut_220 (rcv cok8 (by first | exact rfl | assumption) (Nat.le_of_ble_eq_true rfl)) ⟨(Nat.le_of_ble_eq_true rfl), (Nat.le_of_ble_eq_true rfl), (Nat.le_of_ble_eq_true rfl), (Nat.le_of_ble_eq_true rfl)⟩ ?_
                            refine R_iret dX8_carryOut_223 rfl (Nat.le_of_ble_eq_true rfl) (Nat.le_of_ble_eq_true rfl) ?_
                            have e99 : wCar M n = wDis M n (M 460 6) := by unfold wCar; simp [*]
                            rw [e99]
                            exact ⟨rfl, rfl⟩
                          · by_cases e13 : M 460 5 = 110
                            · refine R_topE e13 ?_
                              refine R_tableIn (tgt := 197) dX8_carryOut_4 (by decide) (by decide) rfl rfl ?_
                              refine R_aload_n dX8_carryOut_197 rfl rfl ?_
                              refine R_aload_n dX8_carryOut_198 rfl rfl ?_
                              refine G_get cok6 6 wf_X8_139 dX8_carryOut_199 (by first | exact rfl | assumption) ⟨(Nat.le_of_ble_eq_true rfl), (Nat.le_of_ble_eq_true rfl)⟩ rfl ?_
                              refine G_cV1 cw_X8_174 (s_X8_passHours hf hn hc) dX8_carryOut_202 (rcv cok8 (by first | exact rfl | assumption) (Nat.le_of_ble_eq_true rfl)) ⟨(Nat.le_of_ble_eq_true rfl), (Nat.le_of_ble_eq_true rfl), (Nat.le_of_ble_eq_true rfl), (Nat.le_of_ble_eq_true rfl)⟩ ?_
                              refine R_iret dX8_carryOut_205 rfl (Nat.le_of_ble_eq_true rfl) (Nat.le_of_ble_eq_true rfl) ?_
                              have e99 : wCar M n = wHrs M n (M 460 6) := by unfold wCar; simp [*]
                              rw [e99]
                              exact ⟨rfl, rfl⟩
                            · by_cases e14 : M 460 5 = 111
                              · refine R_topE e14 ?_
                                refine R_tableIn (tgt := 130) dX8_carryOut_4 (by decide) (by decide) rfl rfl ?_
                                refine R_aload_n dX8_carryOut_130 rfl rfl ?_
                                refine R_aload_n dX8_carryOut_131 rfl rfl ?_
                                refine G_get cok6 6 wf_X8_139 dX8_carryOut_132 (by first | exact rfl | assumption) ⟨(Nat.le_of_ble_eq_true rfl), (Nat.le_of_ble_eq_true rfl)⟩ rfl ?_
                                refine G_cV1 cw_X8_148 (s_X8_takeOut hf hn hc) dX8_carryOut_135 (rcv cok8 (by first | exact rfl | assumption) (Nat.le_of_ble_eq_true rfl)) ⟨(Nat.le_of_ble_eq_true rfl), (Nat.le_of_ble_eq_true rfl), (Nat.le_of_ble_eq_true rfl), (Nat.le_of_ble_eq_true rfl)⟩ ?_
                                refine R_iret dX8_carryOut_138 rfl (Nat.le_of_ble_eq_true rfl) (Nat.le_of_ble_eq_true rfl) ?_
                                have e99 : wCar M n = wOut M (M 460 6) := by unfold wCar; simp [*]
                                rw [e99]
                                exact ⟨rfl, rfl⟩
                              · by_cases e15 : M 460 5 = 112
                                · refine R_topE e15 ?_
                                  refine R_tableIn (tgt := 215) dX8_carryOut_4 (by decide) (by decide) rfl rfl ?_
                                  refine R_aload_n dX8_carryOut_215 rfl rfl ?_
                                  refine R_aload_n dX8_carryOut_216 rfl rfl ?_
                                  refine G_get cok6 6 wf_X8_139 dX8_carryOut_217 (by first | exact rfl | assumption) ⟨(Nat.le_of_ble_eq_true rfl), (Nat.le_of_ble_eq_true rfl)⟩ rfl ?_
                                  refine G_cV1 cw_X8_180 (s_X8_discard hf hn hc hz) dX8_carryOut_220 (rcv cok8 (by first | exact rfl | assumption) (Nat.le_of_ble_eq_true rfl)) ⟨(Nat.le_of_ble_eq_true rfl), (Nat.le_of_ble_eq_true rfl), (Nat.le_of_ble_eq_true rfl), (Nat.le_of_ble_eq_true rfl)⟩ ?_
                                  refine R_iret dX8_carryOut_223 rfl (Nat.le_of_ble_eq_true rfl) (Nat.le_of_ble_eq_true rfl) ?_
                                  have e99 : wCar M n = wDis M n (M 460 6) := by unfold wCar; simp [*]
                                  rw [e99]
                                  exact ⟨rfl, rfl⟩
                                · by_cases e16 : M 460 5 = 113
                                  · refine R_topE e16 ?_
                                    refine R_tableIn (tgt := 215) dX8_carryOut_4 (by decide) (by decide) rfl rfl ?_
                                    refine R_aload_n dX8_carryOut_215 rfl rfl ?_
                                    refine R_aload_n dX8_carryOut_216 rfl rfl ?_
                                    refine G_get cok6 6 wf_X8_139 dX8_carryOut_217 (by first | exact rfl | assumption) ⟨(Nat.le_of_ble_eq_true rfl), (Nat.le_of_ble_eq_true rfl)⟩ rfl ?_
                                    refine G_cV1 cw_X8_180 (s_X8_discard hf hn hc hz) dX8_carryOut_220 (rcv cok8 (by first | exact rfl | assumption) (Nat.le_of_ble_eq_true rfl)) ⟨(Nat.le_of_ble_eq_true rfl), (Nat.le_of_ble_eq_true rfl), (Nat.le_of_ble_eq_true rfl), (Nat.le_of_ble_eq_true rfl)⟩ ?_
                                    refine R_iret dX8_carryOut_223 rfl (Nat.le_of_ble_eq_true rfl) (Nat.le_of_ble_eq_true rfl) ?_
                                    have e99 : wCar M n = wDis M n (M 460 6) := by unfold wCar; simp [*]
                                    rw [e99]
                                    exact ⟨rfl, rfl⟩
                                  · by_cases e17 : M 460 5 = 114
                                    · refine R_topE e17 ?_
                                      refine R_tableIn (tgt := 215) dX8_carryOut_4 (by decide) (by decide) rfl rfl ?_
                                      refine R_aload_n dX8_carryOut_215 rfl rfl ?_
                                      refine R_aload_n dX8_carryOut_216 rfl rfl ?_
                                      refine G_get cok6 6 wf_X8_139 dX8_carryOut_217 (by first | exact rfl | assumption) ⟨(Nat.le_of_ble_eq_true rfl), (Nat.le_of_ble_eq_true rfl)⟩ rfl ?_
                                      refine G_cV1 cw_X8_180 (s_X8_discard hf hn hc hz) dX8_carryOut_220 (rcv cok8 (by first | exact rfl | assumption) (Nat.le_of_ble_eq_true rfl)) ⟨(Nat.le_of_ble_eq_true rfl), (Nat.le_of_ble_eq_true rfl), (Nat.le_of_ble_eq_true rfl), (Nat.le_of_ble_eq_true rfl)⟩ ?_
                                      refine R_iret dX8_carryOut_223 rfl (Nat.le_of_ble_eq_true rfl) (Nat.le_of_ble_eq_true rfl) ?_
                                      have e99 : wCar M n = wDis M n (M 460 6) := by unfold wCar; simp [*]
                                      rw [e99]
                                      exact ⟨rfl, rfl⟩
                                    · by_cases e18 : M 460 5 = 115
                                      · refine R_topE e18 ?_
                                        refine R_tableIn (tgt := 206) dX8_carryOut_4 (by decide) (by decide) rfl rfl ?_
                                        refine R_aload_n dX8_carryOut_206 rfl rfl ?_
                                        refine R_aload_n dX8_carryOut_207 rfl rfl ?_
                                        refine G_get cok6 6 wf_X8_139 dX8_carryOut_208 (by first | exact rfl | assumption) ⟨(Nat.le_of_ble_eq_true rfl), (Nat.le_of_ble_eq_true rfl)⟩ rfl ?_
                                        refine G_cV1 cw_X8_177 (s_X8_sellOff hf hn hc hz) dX8_carryOut_211 (rcv cok8 (by first | exact rfl | assumption) (Nat.le_of_ble_eq_true rfl)) ⟨(Nat.le_of_ble_eq_true rfl), (Nat.le_of_ble_eq_true rfl), (Nat.le_of_ble_eq_true rfl), (Nat.le_of_ble_eq_true rfl)⟩ ?_
                                        refine R_iret dX8_carryOut_214 rfl (Nat.le_of_ble_eq_true rfl) (Nat.le_of_ble_eq_true rfl) ?_
                                        have e99 : wCar M n = wSel M n (M 460 6) := by unfold wCar; simp [*]
                                        rw [e99]
                                        exact ⟨rfl, rfl⟩
                                      · by_cases e19 : M 460 5 = 116
                                        · refine R_topE e19 ?_
                                          refine R_tableIn (tgt := 156) dX8_carryOut_4 (by decide) (by decide) rfl rfl ?_
                                          refine R_aload_n dX8_carryOut_156 rfl rfl ?_
                                          refine R_aload_n dX8_carryOut_157 rfl rfl ?_
                                          refine G_get cok6 6 wf_X8_139 dX8_carryOut_158 (by first | exact rfl | assumption) ⟨(Nat.le_of_ble_eq_true rfl), (Nat.le_of_ble_eq_true rfl)⟩ rfl ?_
                                          refine G_cV1 cw_X8_159 (s_X8_turnOver hf hn hc) dX8_carryOut_161 (rcv cok8 (by first | exact rfl | assumption) (Nat.le_of_ble_eq_true rfl)) ⟨(Nat.le_of_ble_eq_true rfl), (Nat.le_of_ble_eq_true rfl), (Nat.le_of_ble_eq_true rfl), (Nat.le_of_ble_eq_true rfl)⟩ ?_
                                          refine R_iret dX8_carryOut_164 rfl (Nat.le_of_ble_eq_true rfl) (Nat.le_of_ble_eq_true rfl) ?_
                                          have e99 : wCar M n = wTur M (M 460 6) := by unfold wCar; simp [*]
                                          rw [e99]
                                          exact ⟨rfl, rfl⟩
                                        · by_cases e20 : M 460 5 = 117
                                          · refine R_topE e20 ?_
                                            refine R_tableIn (tgt := 215) dX8_carryOut_4 (by decide) (by decide) rfl rfl ?_
                                            refine R_aload_n dX8_carryOut_215 rfl rfl ?_
                                            refine R_aload_n dX8_carryOut_216 rfl rfl ?_
                                            refine G_get cok6 6 wf_X8_139 dX8_carryOut_217 (by first | exact rfl | assumption) ⟨(Nat.le_of_ble_eq_true rfl), (Nat.le_of_ble_eq_true rfl)⟩ rfl ?_
                                            refine G_cV1 cw_X8_180 (s_X8_discard hf hn hc hz) dX8_carryOut_220 (rcv cok8 (by first | exact rfl | assumption) (Nat.le_of_ble_eq_true rfl)) ⟨(Nat.le_of_ble_eq_true rfl), (Nat.le_of_ble_eq_true rfl), (Nat.le_of_ble_eq_true rfl), (Nat.le_of_ble_eq_true rfl)⟩ ?_
                                            refine R_iret dX8_carryOut_223 rfl (Nat.le_of_ble_eq_true rfl) (Nat.le_of_ble_eq_true rfl) ?_
                                            have e99 : wCar M n = wDis M n (M 460 6) := by unfold wCar; simp [*]
                                            rw [e99]
                                            exact ⟨rfl, rfl⟩
                                          · by_cases e21 : M 460 5 = 118
                                            · refine R_topE e21 ?_
                                              refine R_tableIn (tgt := 215) dX8_carryOut_4 (by decide) (by decide) rfl rfl ?_
                                              refine R_aload_n dX8_carryOut_215 rfl rfl ?_
                                              refine R_aload_n dX8_carryOut_216 rfl rfl ?_
                                              refine G_get cok6 6 wf_X8_139 dX8_carryOut_217 (by first | exact rfl | assumption) ⟨(Nat.le_of_ble_eq_true rfl), (Nat.le_of_ble_eq_true rfl)⟩ rfl ?_
                                              refine G_cV1 cw_X8_180 (s_X8_discard hf hn hc hz) dX8_carryOut_220 (rcv cok8 (by first | exact rfl | assumption) (Nat.le_of_ble_eq_true rfl)) ⟨(Nat.le_of_ble_eq_true rfl), (Nat.le_of_ble_eq_true rfl), (Nat.le_of_ble_eq_true rfl), (Nat.le_of_ble_eq_true rfl)⟩ ?_
                                              refine R_iret dX8_carryOut_223 rfl (Nat.le_of_ble_eq_true rfl) (Nat.le_of_ble_eq_true rfl) ?_
                                              have e99 : wCar M n = wDis M n (M 460 6) := by unfold wCar; simp [*]
                                              rw [e99]
                                              exact ⟨rfl, rfl⟩
                                            · by_cases e22 : M 460 5 = 119
                                              · refine R_topE e22 ?_
                                                refine R_tableIn (tgt := 183) dX8_carryOut_4 (by decide) (by decide) rfl rfl ?_
                                                refine R_aload_n dX8_carryOut_183 rfl rfl ?_
                                                refine R_aload_n dX8_carryOut_184 rfl rfl ?_
                                                refine G_get cok6 6 wf_X8_139 dX8_carryOut_185 (by first | exact rfl | assumption) ⟨(Nat.le_of_ble_eq_true rfl), (Nat.le_of_ble_eq_true rfl)⟩ rfl ?_
                                                refine G_cV1 cw_X8_168 (s_X8_tellWood hf hn hc) dX8_carryOut_188 (rcv cok8 (by first | exact rfl | assumption) (Nat.le_of_ble_eq_true rfl)) ⟨(Nat.le_of_ble_eq_true rfl), (Nat.le_of_ble_eq_true rfl), (Nat.le_of_ble_eq_true rfl), (Nat.le_of_ble_eq_true rfl)⟩ ?_
                                                refine R_iret dX8_carryOut_191 rfl (Nat.le_of_ble_eq_true rfl) (Nat.le_of_ble_eq_true rfl) ?_
                                                have e99 : wCar M n = wWoo M (M 460 6) := by unfold wCar; simp [*]
                                                rw [e99]
                                                exact ⟨rfl, rfl⟩
                                              · have t0 : (M 460 5).toInt ≠ 97 := fun e => e0 (Int32.toInt_inj.mp (by rw [e]; rfl))
                                                have t1 : (M 460 5).toInt ≠ 98 := fun e => e1 (Int32.toInt_inj.mp (by rw [e]; rfl))
                                                have t2 : (M 460 5).toInt ≠ 99 := fun e => e2 (Int32.toInt_inj.mp (by rw [e]; rfl))
                                                have t3 : (M 460 5).toInt ≠ 100 := fun e => e3 (Int32.toInt_inj.mp (by rw [e]; rfl))
                                                have t4 : (M 460 5).toInt ≠ 101 := fun e => e4 (Int32.toInt_inj.mp (by rw [e]; rfl))
                                                have t5 : (M 460 5).toInt ≠ 102 := fun e => e5 (Int32.toInt_inj.mp (by rw [e]; rfl))
                                                have t6 : (M 460 5).toInt ≠ 103 := fun e => e6 (Int32.toInt_inj.mp (by rw [e]; rfl))
                                                have t7 : (M 460 5).toInt ≠ 104 := fun e => e7 (Int32.toInt_inj.mp (by rw [e]; rfl))
                                                have t8 : (M 460 5).toInt ≠ 105 := fun e => e8 (Int32.toInt_inj.mp (by rw [e]; rfl))
                                                have t9 : (M 460 5).toInt ≠ 106 := fun e => e9 (Int32.toInt_inj.mp (by rw [e]; rfl))
                                                have t10 : (M 460 5).toInt ≠ 107 := fun e => e10 (Int32.toInt_inj.mp (by rw [e]; rfl))
                                                have t11 : (M 460 5).toInt ≠ 108 := fun e => e11 (Int32.toInt_inj.mp (by rw [e]; rfl))
                                                have t12 : (M 460 5).toInt ≠ 109 := fun e => e12 (Int32.toInt_inj.mp (by rw [e]; rfl))
                                                have t13 : (M 460 5).toInt ≠ 110 := fun e => e13 (Int32.toInt_inj.mp (by rw [e]; rfl))
                                                have t14 : (M 460 5).toInt ≠ 111 := fun e => e14 (Int32.toInt_inj.mp (by rw [e]; rfl))
                                                have t15 : (M 460 5).toInt ≠ 112 := fun e => e15 (Int32.toInt_inj.mp (by rw [e]; rfl))
                                                have t16 : (M 460 5).toInt ≠ 113 := fun e => e16 (Int32.toInt_inj.mp (by rw [e]; rfl))
                                                have t17 : (M 460 5).toInt ≠ 114 := fun e => e17 (Int32.toInt_inj.mp (by rw [e]; rfl))
                                                have t18 : (M 460 5).toInt ≠ 115 := fun e => e18 (Int32.toInt_inj.mp (by rw [e]; rfl))
                                                have t19 : (M 460 5).toInt ≠ 116 := fun e => e19 (Int32.toInt_inj.mp (by rw [e]; rfl))
                                                have t20 : (M 460 5).toInt ≠ 117 := fun e => e20 (Int32.toInt_inj.mp (by rw [e]; rfl))
                                                have t21 : (M 460 5).toInt ≠ 118 := fun e => e21 (Int32.toInt_inj.mp (by rw [e]; rfl))
                                                have t22 : (M 460 5).toInt ≠ 119 := fun e => e22 (Int32.toInt_inj.mp (by rw [e]; rfl))
                                                refine R_tableOut (tgt := 215) dX8_carryOut_4 (by omega) rfl ?_
                                                refine R_aload_n dX8_carryOut_215 rfl rfl ?_
                                                refine R_aload_n dX8_carryOut_216 rfl rfl ?_
                                                refine G_get cok6 6 wf_X8_139 dX8_carryOut_217 (by first | exact rfl | assumption) ⟨(Nat.le_of_ble_eq_true rfl), (Nat.le_of_ble_eq_true rfl)⟩ rfl ?_
                                                refine G_cV1 cw_X8_180 (s_X8_discard hf hn hc hz) dX8_carryOut_220 (rcv cok8 (by first | exact rfl | assumption) (Nat.le_of_ble_eq_true rfl)) ⟨(Nat.le_of_ble_eq_true rfl), (Nat.le_of_ble_eq_true rfl), (Nat.le_of_ble_eq_true rfl), (Nat.le_of_ble_eq_true rfl)⟩ ?_
                                                refine R_iret dX8_carryOut_223 rfl (Nat.le_of_ble_eq_true rfl) (Nat.le_of_ble_eq_true rfl) ?_
                                                have e99 : wCar M n = wDis M n (M 460 6) := by unfold wCar; simp [*]
                                                rw [e99]
                                                exact ⟨rfl, rfl⟩
theorem s_X9_settled {l : Launch} (hf : l.stackTraces = false) {n : Nat} {x : Int32} (hn : n ≤ 12) (hc : M 42 2 = nI n) (hz : flg M 42 n) (hP : prm r.1) : V_X9_settled l [.ref 0, .int x] (hp M r) (setZ x M r n) := by
  refine VM.intro (lf := L9 (some (.ref 0)) (some (.int x)) none none none none none none none) (by decide +kernel) hf (fun _ => (Nat.le_of_ble_eq_true rfl)) (fun _ => rfl) ?_
  refine R_iload_n dX9_settled_0 rfl rfl ?_
  refine R_iconst (v := (-1)) dX9_settled_1 (by decide) ?_
  refine R_icmp_ne (tgt := 13) dX9_settled_2 rfl (fun c1 => ?_) (fun c1 => ?_)
  · refine R_aload_n dX9_settled_13 rfl rfl ?_
    refine G_get cok9 3 wf_X9_25 dX9_settled_14 (by first | exact rfl | assumption) ⟨(Nat.le_of_ble_eq_true rfl), (Nat.le_of_ble_eq_true rfl)⟩ rfl ?_
    refine R_aload_n dX9_settled_17 rfl rfl ?_
    refine G_get cok9 1 wf_X9_16 dX9_settled_18 (by first | exact rfl | assumption) ⟨(Nat.le_of_ble_eq_true rfl), (Nat.le_of_ble_eq_true rfl)⟩ rfl ?_
    refine G_cV1v cw_X9_249 (s_X2_keep hf (fun k hk => (hP k hk).1) (by have := (hP 7 (by omega)).2; omega) hn hc hz) dX9_settled_21 (rcv cok2 (by first | exact rfl | assumption) (Nat.le_of_ble_eq_true rfl)) ⟨(Nat.le_of_ble_eq_true rfl), (Nat.le_of_ble_eq_true rfl), (Nat.le_of_ble_eq_true rfl), (Nat.le_of_ble_eq_true rfl)⟩ ?_
    refine R_iload_n dX9_settled_24 rfl rfl ?_
    refine R_iret dX9_settled_25 rfl (Nat.le_of_ble_eq_true rfl) (Nat.le_of_ble_eq_true rfl) ?_
    rw [setZ, if_neg c1]
    exact ⟨rfl, rfl⟩
  · refine R_throw tw_X9_246_248 dX9_settled_5 dX9_settled_8 dX9_settled_9 dX9_settled_12 (Nat.le_of_ble_eq_true rfl) (Nat.le_of_ble_eq_true rfl) (Nat.le_of_ble_eq_true rfl) (Nat.le_of_ble_eq_true rfl) ?_
    rw [setZ, if_pos c1]
    exact ⟨rfl, rfl⟩
theorem hcp_self {M : MM} {a b n : Nat} (hn : n ≤ 12) : hcp M a b n a 2 = M b 2 := by
  rw [hcp_fr n (by omega)]
  simp [hcp0]
theorem fcp_at {M : MM} {a b : Nat} {k : Nat} (h : 2 ≤ k ∧ k ≤ 8) : fcp M a b a k = M b k := by
  simp [fcp, h]
theorem fcp_at1 {M : MM} {a b : Nat} {k : Nat} (h : k < 2) : fcp M a b (a + 1) k = M (b + 1) k := by
  simp [fcp, h]
theorem fcp_at2 {M : MM} {a b : Nat} {k : Nat} (h : k < 2) : fcp M a b (a + 2) k = M (b + 2) k := by
  simp [fcp, h]
/-- a copied house: the fish of the first n -/
theorem hcp_fish {M : MM} {a b : Nat} (hap : a + 41 ≤ b ∨ b + 41 ≤ a) : ∀ (n : Nat), n ≤ 12 → ∀ i, i < n → (∀ k, 2 ≤ k → k ≤ 8 → hcp M a b n (a + 5 + 3 * i) k = M (b + 5 + 3 * i) k) ∧ (∀ k, k < 2 → hcp M a b n (a + 5 + 3 * i + 1) k = M (b + 5 + 3 * i + 1) k) ∧ ∀ k, k < 2 → hcp M a b n (a + 5 + 3 * i + 2) k = M (b + 5 + 3 * i + 2) k
  | 0, _, i, hi => by omega
  | n + 1, hn, i, hi => by
    have hs : ∀ x, b ≤ x → x < b + 41 → hcp M a b n x = M x := fun x h1 h2 => by
      rw [hcp_fr n (by omega)]
      funext k
      simp [hcp0, show ¬ x = a by omega]
    show (∀ k, 2 ≤ k → k ≤ 8 → fcp (hcp M a b n) (a + 5 + 3 * n) (b + 5 + 3 * n) (a + 5 + 3 * i) k = _) ∧ (∀ k, k < 2 → fcp (hcp M a b n) (a + 5 + 3 * n) (b + 5 + 3 * n) (a + 5 + 3 * i + 1) k = _) ∧ ∀ k, k < 2 → fcp (hcp M a b n) (a + 5 + 3 * n) (b + 5 + 3 * n) (a + 5 + 3 * i + 2) k = _
    by_cases h : i = n
    · subst h
      refine ⟨fun k h1 h2 => ?_, fun k h1 => ?_, fun k h1 => ?_⟩
      · rw [fcp_at ⟨h1, h2⟩, hs _ (by omega) (by omega)]
      · rw [fcp_at1 h1, hs _ (by omega) (by omega)]
      · rw [fcp_at2 h1, hs _ (by omega) (by omega)]
    · obtain ⟨g1, g2, g3⟩ := hcp_fish hap n (by omega) i (by omega)
      refine ⟨fun k h1 h2 => ?_, fun k h1 => ?_, fun k h1 => ?_⟩
      · rw [fcp_ne (by omega) (by omega) (by omega)]; exact g1 k h1 h2
      · rw [fcp_ne (by omega) (by omega) (by omega)]; exact g2 k h1
      · rw [fcp_ne (by omega) (by omega) (by omega)]; exact g3 k h1
theorem flg_hcp {M : MM} {a b n : Nat} (hn : n ≤ 12) (hap : a + 41 ≤ b ∨ b + 41 ≤ a) (h : flg M b n) : flg (hcp M a b n) a n := fun i hi => by
  rw [(hcp_fish hap n hn i hi).1 8 (by omega) (by omega)]
  exact h i hi
theorem flg_eq {M M' : MM} {b n : Nat} (h : ∀ x, b ≤ x → x < b + 41 → M' x = M x) (hn : n ≤ 12) (hz : flg M b n) : flg M' b n := fun i hi => by
  rw [h _ (by omega) (by omega)]
  exact hz i hi
theorem hcp_1 {M : MM} {n : Nat} (hn : n ≤ 12) {x : Nat} (h : x < 42) : hcp M 42 1 n x = M x := hcp_out hn (Or.inl h)
theorem s_X9_fish {l : Launch} (hf : l.stackTraces = false) {n : Nat} (hn : n ≤ 12) (hc : M 1 2 = nI n) (hz : flg M 1 n) (hP : prm r.1) {v : Int32} : V_X9_fish l [.ref 0, .int v] (hp M r) (setZ (wLet (hcp M 42 1 n) n v).1 (wLet (hcp M 42 1 n) n v).2 r n) := by
  refine VM.intro (lf := L9 (some (.ref 0)) (some (.int v)) none none none none none none none) (by decide +kernel) hf (fun _ => (Nat.le_of_ble_eq_true rfl)) (fun _ => rfl) ?_
  have hc1 : hcp M 42 1 n 1 2 = nI n := by rw [hcp_1 hn (by omega)]; exact hc
  have hz1 : flg (hcp M 42 1 n) 1 n := flg_eq (fun x h1 h2 => hcp_1 hn (by omega)) hn hz
  have ho : outW (hcp M 42 1 n) (wLet (hcp M 42 1 n) n v).2 := outW_Let hn
  have hcb : (wLet (hcp M 42 1 n) n v).2 42 2 = nI n := by rw [ho 42 (by omega), hcp_self hn]; exact hc
  have hzb : flg (wLet (hcp M 42 1 n) n v).2 42 n := flg_eq (fun x h1 h2 => ho x (by omega)) hn (flg_hcp hn (by omega) hz)
  refine R_aload_n dX9_fish_0 rfl rfl ?_
  refine G_get cok9 1 wf_X9_16 dX9_fish_1 (by first | exact rfl | assumption) ⟨(Nat.le_of_ble_eq_true rfl), (Nat.le_of_ble_eq_true rfl)⟩ rfl ?_
  refine R_aload_n dX9_fish_4 rfl rfl ?_
  refine G_get cok9 0 wf_X9_12 dX9_fish_5 (by first | exact rfl | assumption) ⟨(Nat.le_of_ble_eq_true rfl), (Nat.le_of_ble_eq_true rfl)⟩ rfl ?_
  refine G_cV1v cw_X9_68 (s_X3_copyFrom hf isH42 isH1 (by decide) hn hc hz) dX9_fish_8 (rcv cok3 (by first | exact rfl | assumption) (Nat.le_of_ble_eq_true rfl)) ⟨(Nat.le_of_ble_eq_true rfl), (Nat.le_of_ble_eq_true rfl), (Nat.le_of_ble_eq_true rfl), (Nat.le_of_ble_eq_true rfl)⟩ ?_
  refine R_aload_n dX9_fish_11 rfl rfl ?_
  refine R_aload_n dX9_fish_12 rfl rfl ?_
  refine G_get cok9 5 wf_X9_41 dX9_fish_13 (by first | exact rfl | assumption) ⟨(Nat.le_of_ble_eq_true rfl), (Nat.le_of_ble_eq_true rfl)⟩ rfl ?_
  refine R_iload_n dX9_fish_16 rfl rfl ?_
  refine G_cV1 cw_X9_71 (s_X8_letCome hf hn hc1) dX9_fish_17 (rcv cok8 (by first | exact rfl | assumption) (Nat.le_of_ble_eq_true rfl)) ⟨(Nat.le_of_ble_eq_true rfl), (Nat.le_of_ble_eq_true rfl), (Nat.le_of_ble_eq_true rfl), (Nat.le_of_ble_eq_true rfl)⟩ ?_
  by_cases h9 : (wLet (hcp M 42 1 n) n v).1 = -1
  · have hs9 := s_X9_settled (r := r) hf (x := (wLet (hcp M 42 1 n) n v).1) hn hcb hzb hP
    rw [setZ, if_pos h9] at hs9 ⊢
    exact G_xV1 cw_X9_75 hs9 dX9_fish_20 (rcv cok9 rfl (Nat.le_of_ble_eq_true rfl)) ⟨(Nat.le_of_ble_eq_true rfl), (Nat.le_of_ble_eq_true rfl), (Nat.le_of_ble_eq_true rfl), (Nat.le_of_ble_eq_true rfl)⟩ ⟨rfl, rfl⟩
  · have hs9 := s_X9_settled (r := r) hf (x := (wLet (hcp M 42 1 n) n v).1) hn hcb hzb hP
    rw [setZ, if_neg h9] at hs9 ⊢
    refine G_tV1 cw_X9_75 hs9 dX9_fish_20 (rcv cok9 rfl (Nat.le_of_ble_eq_true rfl)) ⟨(Nat.le_of_ble_eq_true rfl), (Nat.le_of_ble_eq_true rfl), (Nat.le_of_ble_eq_true rfl), (Nat.le_of_ble_eq_true rfl)⟩ ?_
    exact R_iret dX9_fish_23 rfl (Nat.le_of_ble_eq_true rfl) (Nat.le_of_ble_eq_true rfl) ⟨rfl, rfl⟩
theorem s_X9_brine {l : Launch} (hf : l.stackTraces = false) {n : Nat} (hn : n ≤ 12) (hc : M 1 2 = nI n) (hz : flg M 1 n) (hP : prm r.1) {v : Int32} : V_X9_brine l [.ref 0, .int v] (hp M r) (setZ (wBri (hcp M 42 1 n) n v).1 (wBri (hcp M 42 1 n) n v).2 r n) := by
  refine VM.intro (lf := L9 (some (.ref 0)) (some (.int v)) none none none none none none none) (by decide +kernel) hf (fun _ => (Nat.le_of_ble_eq_true rfl)) (fun _ => rfl) ?_
  have hc1 : hcp M 42 1 n 1 2 = nI n := by rw [hcp_1 hn (by omega)]; exact hc
  have hz1 : flg (hcp M 42 1 n) 1 n := flg_eq (fun x h1 h2 => hcp_1 hn (by omega)) hn hz
  have ho : outW (hcp M 42 1 n) (wBri (hcp M 42 1 n) n v).2 := outW_Bri hc1 hn
  have hcb : (wBri (hcp M 42 1 n) n v).2 42 2 = nI n := by rw [ho 42 (by omega), hcp_self hn]; exact hc
  have hzb : flg (wBri (hcp M 42 1 n) n v).2 42 n := flg_eq (fun x h1 h2 => ho x (by omega)) hn (flg_hcp hn (by omega) hz)
  refine R_aload_n dX9_brine_0 rfl rfl ?_
  refine G_get cok9 1 wf_X9_16 dX9_brine_1 (by first | exact rfl | assumption) ⟨(Nat.le_of_ble_eq_true rfl), (Nat.le_of_ble_eq_true rfl)⟩ rfl ?_
  refine R_aload_n dX9_brine_4 rfl rfl ?_
  refine G_get cok9 0 wf_X9_12 dX9_brine_5 (by first | exact rfl | assumption) ⟨(Nat.le_of_ble_eq_true rfl), (Nat.le_of_ble_eq_true rfl)⟩ rfl ?_
  refine G_cV1v cw_X9_68 (s_X3_copyFrom hf isH42 isH1 (by decide) hn hc hz) dX9_brine_8 (rcv cok3 (by first | exact rfl | assumption) (Nat.le_of_ble_eq_true rfl)) ⟨(Nat.le_of_ble_eq_true rfl), (Nat.le_of_ble_eq_true rfl), (Nat.le_of_ble_eq_true rfl), (Nat.le_of_ble_eq_true rfl)⟩ ?_
  refine R_aload_n dX9_brine_11 rfl rfl ?_
  refine R_aload_n dX9_brine_12 rfl rfl ?_
  refine G_get cok9 5 wf_X9_41 dX9_brine_13 (by first | exact rfl | assumption) ⟨(Nat.le_of_ble_eq_true rfl), (Nat.le_of_ble_eq_true rfl)⟩ rfl ?_
  refine R_iload_n dX9_brine_16 rfl rfl ?_
  refine G_cV1 cw_X9_78 (s_X8_layIntoBrine hf hn hc1) dX9_brine_17 (rcv cok8 (by first | exact rfl | assumption) (Nat.le_of_ble_eq_true rfl)) ⟨(Nat.le_of_ble_eq_true rfl), (Nat.le_of_ble_eq_true rfl), (Nat.le_of_ble_eq_true rfl), (Nat.le_of_ble_eq_true rfl)⟩ ?_
  by_cases h9 : (wBri (hcp M 42 1 n) n v).1 = -1
  · have hs9 := s_X9_settled (r := r) hf (x := (wBri (hcp M 42 1 n) n v).1) hn hcb hzb hP
    rw [setZ, if_pos h9] at hs9 ⊢
    exact G_xV1 cw_X9_75 hs9 dX9_brine_20 (rcv cok9 rfl (Nat.le_of_ble_eq_true rfl)) ⟨(Nat.le_of_ble_eq_true rfl), (Nat.le_of_ble_eq_true rfl), (Nat.le_of_ble_eq_true rfl), (Nat.le_of_ble_eq_true rfl)⟩ ⟨rfl, rfl⟩
  · have hs9 := s_X9_settled (r := r) hf (x := (wBri (hcp M 42 1 n) n v).1) hn hcb hzb hP
    rw [setZ, if_neg h9] at hs9 ⊢
    refine G_tV1 cw_X9_75 hs9 dX9_brine_20 (rcv cok9 rfl (Nat.le_of_ble_eq_true rfl)) ⟨(Nat.le_of_ble_eq_true rfl), (Nat.le_of_ble_eq_true rfl), (Nat.le_of_ble_eq_true rfl), (Nat.le_of_ble_eq_true rfl)⟩ ?_
    exact R_iret dX9_brine_23 rfl (Nat.le_of_ble_eq_true rfl) (Nat.le_of_ble_eq_true rfl) ⟨rfl, rfl⟩
theorem s_X9_out {l : Launch} (hf : l.stackTraces = false) {n : Nat} (hn : n ≤ 12) (hc : M 1 2 = nI n) (hz : flg M 1 n) (hP : prm r.1) {v : Int32} : V_X9_out l [.ref 0, .int v] (hp M r) (setZ (wOut (hcp M 42 1 n) v).1 (wOut (hcp M 42 1 n) v).2 r n) := by
  refine VM.intro (lf := L9 (some (.ref 0)) (some (.int v)) none none none none none none none) (by decide +kernel) hf (fun _ => (Nat.le_of_ble_eq_true rfl)) (fun _ => rfl) ?_
  have hc1 : hcp M 42 1 n 1 2 = nI n := by rw [hcp_1 hn (by omega)]; exact hc
  have hz1 : flg (hcp M 42 1 n) 1 n := flg_eq (fun x h1 h2 => hcp_1 hn (by omega)) hn hz
  have ho : outW (hcp M 42 1 n) (wOut (hcp M 42 1 n) v).2 := outW_Out hc1 hn
  have hcb : (wOut (hcp M 42 1 n) v).2 42 2 = nI n := by rw [ho 42 (by omega), hcp_self hn]; exact hc
  have hzb : flg (wOut (hcp M 42 1 n) v).2 42 n := flg_eq (fun x h1 h2 => ho x (by omega)) hn (flg_hcp hn (by omega) hz)
  refine R_aload_n dX9_out_0 rfl rfl ?_
  refine G_get cok9 1 wf_X9_16 dX9_out_1 (by first | exact rfl | assumption) ⟨(Nat.le_of_ble_eq_true rfl), (Nat.le_of_ble_eq_true rfl)⟩ rfl ?_
  refine R_aload_n dX9_out_4 rfl rfl ?_
  refine G_get cok9 0 wf_X9_12 dX9_out_5 (by first | exact rfl | assumption) ⟨(Nat.le_of_ble_eq_true rfl), (Nat.le_of_ble_eq_true rfl)⟩ rfl ?_
  refine G_cV1v cw_X9_68 (s_X3_copyFrom hf isH42 isH1 (by decide) hn hc hz) dX9_out_8 (rcv cok3 (by first | exact rfl | assumption) (Nat.le_of_ble_eq_true rfl)) ⟨(Nat.le_of_ble_eq_true rfl), (Nat.le_of_ble_eq_true rfl), (Nat.le_of_ble_eq_true rfl), (Nat.le_of_ble_eq_true rfl)⟩ ?_
  refine R_aload_n dX9_out_11 rfl rfl ?_
  refine R_aload_n dX9_out_12 rfl rfl ?_
  refine G_get cok9 5 wf_X9_41 dX9_out_13 (by first | exact rfl | assumption) ⟨(Nat.le_of_ble_eq_true rfl), (Nat.le_of_ble_eq_true rfl)⟩ rfl ?_
  refine R_iload_n dX9_out_16 rfl rfl ?_
  refine G_cV1 cw_X9_81 (s_X8_takeOut hf hn hc1) dX9_out_17 (rcv cok8 (by first | exact rfl | assumption) (Nat.le_of_ble_eq_true rfl)) ⟨(Nat.le_of_ble_eq_true rfl), (Nat.le_of_ble_eq_true rfl), (Nat.le_of_ble_eq_true rfl), (Nat.le_of_ble_eq_true rfl)⟩ ?_
  by_cases h9 : (wOut (hcp M 42 1 n) v).1 = -1
  · have hs9 := s_X9_settled (r := r) hf (x := (wOut (hcp M 42 1 n) v).1) hn hcb hzb hP
    rw [setZ, if_pos h9] at hs9 ⊢
    exact G_xV1 cw_X9_75 hs9 dX9_out_20 (rcv cok9 rfl (Nat.le_of_ble_eq_true rfl)) ⟨(Nat.le_of_ble_eq_true rfl), (Nat.le_of_ble_eq_true rfl), (Nat.le_of_ble_eq_true rfl), (Nat.le_of_ble_eq_true rfl)⟩ ⟨rfl, rfl⟩
  · have hs9 := s_X9_settled (r := r) hf (x := (wOut (hcp M 42 1 n) v).1) hn hcb hzb hP
    rw [setZ, if_neg h9] at hs9 ⊢
    refine G_tV1 cw_X9_75 hs9 dX9_out_20 (rcv cok9 rfl (Nat.le_of_ble_eq_true rfl)) ⟨(Nat.le_of_ble_eq_true rfl), (Nat.le_of_ble_eq_true rfl), (Nat.le_of_ble_eq_true rfl), (Nat.le_of_ble_eq_true rfl)⟩ ?_
    exact R_iret dX9_out_23 rfl (Nat.le_of_ble_eq_true rfl) (Nat.le_of_ble_eq_true rfl) ⟨rfl, rfl⟩
theorem s_X9_hang {l : Launch} (hf : l.stackTraces = false) {n : Nat} (hn : n ≤ 12) (hc : M 1 2 = nI n) (hz : flg M 1 n) (hP : prm r.1) {v p q : Int32} : V_X9_hang l [.ref 0, .int v, .int p, .int q] (hp M r) (setZ (wHan (hcp M 42 1 n) n v p q).1 (wHan (hcp M 42 1 n) n v p q).2 r n) := by
  refine VM.intro (lf := L9 (some (.ref 0)) (some (.int v)) (some (.int p)) (some (.int q)) none none none none none) (by decide +kernel) hf (fun _ => (Nat.le_of_ble_eq_true rfl)) (fun _ => rfl) ?_
  have hc1 : hcp M 42 1 n 1 2 = nI n := by rw [hcp_1 hn (by omega)]; exact hc
  have hz1 : flg (hcp M 42 1 n) 1 n := flg_eq (fun x h1 h2 => hcp_1 hn (by omega)) hn hz
  have ho : outW (hcp M 42 1 n) (wHan (hcp M 42 1 n) n v p q).2 := outW_Han hc1 hn
  have hcb : (wHan (hcp M 42 1 n) n v p q).2 42 2 = nI n := by rw [ho 42 (by omega), hcp_self hn]; exact hc
  have hzb : flg (wHan (hcp M 42 1 n) n v p q).2 42 n := flg_eq (fun x h1 h2 => ho x (by omega)) hn (flg_hcp hn (by omega) hz)
  refine R_aload_n dX9_hang_0 rfl rfl ?_
  refine G_get cok9 1 wf_X9_16 dX9_hang_1 (by first | exact rfl | assumption) ⟨(Nat.le_of_ble_eq_true rfl), (Nat.le_of_ble_eq_true rfl)⟩ rfl ?_
  refine R_aload_n dX9_hang_4 rfl rfl ?_
  refine G_get cok9 0 wf_X9_12 dX9_hang_5 (by first | exact rfl | assumption) ⟨(Nat.le_of_ble_eq_true rfl), (Nat.le_of_ble_eq_true rfl)⟩ rfl ?_
  refine G_cV1v cw_X9_68 (s_X3_copyFrom hf isH42 isH1 (by decide) hn hc hz) dX9_hang_8 (rcv cok3 (by first | exact rfl | assumption) (Nat.le_of_ble_eq_true rfl)) ⟨(Nat.le_of_ble_eq_true rfl), (Nat.le_of_ble_eq_true rfl), (Nat.le_of_ble_eq_true rfl), (Nat.le_of_ble_eq_true rfl)⟩ ?_
  refine R_aload_n dX9_hang_11 rfl rfl ?_
  refine R_aload_n dX9_hang_12 rfl rfl ?_
  refine G_get cok9 5 wf_X9_41 dX9_hang_13 (by first | exact rfl | assumption) ⟨(Nat.le_of_ble_eq_true rfl), (Nat.le_of_ble_eq_true rfl)⟩ rfl ?_
  refine R_iload_n dX9_hang_16 rfl rfl ?_
  refine R_iload_n dX9_hang_17 rfl rfl ?_
  refine R_iload_n dX9_hang_18 rfl rfl ?_
  refine G_cV3 cw_X9_84 (s_X8_hangUp hf hn hc1) dX9_hang_19 (rcv cok8 (by first | exact rfl | assumption) (Nat.le_of_ble_eq_true rfl)) ⟨(Nat.le_of_ble_eq_true rfl), (Nat.le_of_ble_eq_true rfl), (Nat.le_of_ble_eq_true rfl), (Nat.le_of_ble_eq_true rfl)⟩ ?_
  by_cases h9 : (wHan (hcp M 42 1 n) n v p q).1 = -1
  · have hs9 := s_X9_settled (r := r) hf (x := (wHan (hcp M 42 1 n) n v p q).1) hn hcb hzb hP
    rw [setZ, if_pos h9] at hs9 ⊢
    exact G_xV1 cw_X9_75 hs9 dX9_hang_22 (rcv cok9 rfl (Nat.le_of_ble_eq_true rfl)) ⟨(Nat.le_of_ble_eq_true rfl), (Nat.le_of_ble_eq_true rfl), (Nat.le_of_ble_eq_true rfl), (Nat.le_of_ble_eq_true rfl)⟩ ⟨rfl, rfl⟩
  · have hs9 := s_X9_settled (r := r) hf (x := (wHan (hcp M 42 1 n) n v p q).1) hn hcb hzb hP
    rw [setZ, if_neg h9] at hs9 ⊢
    refine G_tV1 cw_X9_75 hs9 dX9_hang_22 (rcv cok9 rfl (Nat.le_of_ble_eq_true rfl)) ⟨(Nat.le_of_ble_eq_true rfl), (Nat.le_of_ble_eq_true rfl), (Nat.le_of_ble_eq_true rfl), (Nat.le_of_ble_eq_true rfl)⟩ ?_
    exact R_iret dX9_hang_25 rfl (Nat.le_of_ble_eq_true rfl) (Nat.le_of_ble_eq_true rfl) ⟨rfl, rfl⟩
theorem s_X9_turn {l : Launch} (hf : l.stackTraces = false) {n : Nat} (hn : n ≤ 12) (hc : M 1 2 = nI n) (hz : flg M 1 n) (hP : prm r.1) {v : Int32} : V_X9_turn l [.ref 0, .int v] (hp M r) (setZ (wTur (hcp M 42 1 n) v).1 (wTur (hcp M 42 1 n) v).2 r n) := by
  refine VM.intro (lf := L9 (some (.ref 0)) (some (.int v)) none none none none none none none) (by decide +kernel) hf (fun _ => (Nat.le_of_ble_eq_true rfl)) (fun _ => rfl) ?_
  have hc1 : hcp M 42 1 n 1 2 = nI n := by rw [hcp_1 hn (by omega)]; exact hc
  have hz1 : flg (hcp M 42 1 n) 1 n := flg_eq (fun x h1 h2 => hcp_1 hn (by omega)) hn hz
  have ho : outW (hcp M 42 1 n) (wTur (hcp M 42 1 n) v).2 := outW_Tur hc1 hn
  have hcb : (wTur (hcp M 42 1 n) v).2 42 2 = nI n := by rw [ho 42 (by omega), hcp_self hn]; exact hc
  have hzb : flg (wTur (hcp M 42 1 n) v).2 42 n := flg_eq (fun x h1 h2 => ho x (by omega)) hn (flg_hcp hn (by omega) hz)
  refine R_aload_n dX9_turn_0 rfl rfl ?_
  refine G_get cok9 1 wf_X9_16 dX9_turn_1 (by first | exact rfl | assumption) ⟨(Nat.le_of_ble_eq_true rfl), (Nat.le_of_ble_eq_true rfl)⟩ rfl ?_
  refine R_aload_n dX9_turn_4 rfl rfl ?_
  refine G_get cok9 0 wf_X9_12 dX9_turn_5 (by first | exact rfl | assumption) ⟨(Nat.le_of_ble_eq_true rfl), (Nat.le_of_ble_eq_true rfl)⟩ rfl ?_
  refine G_cV1v cw_X9_68 (s_X3_copyFrom hf isH42 isH1 (by decide) hn hc hz) dX9_turn_8 (rcv cok3 (by first | exact rfl | assumption) (Nat.le_of_ble_eq_true rfl)) ⟨(Nat.le_of_ble_eq_true rfl), (Nat.le_of_ble_eq_true rfl), (Nat.le_of_ble_eq_true rfl), (Nat.le_of_ble_eq_true rfl)⟩ ?_
  refine R_aload_n dX9_turn_11 rfl rfl ?_
  refine R_aload_n dX9_turn_12 rfl rfl ?_
  refine G_get cok9 5 wf_X9_41 dX9_turn_13 (by first | exact rfl | assumption) ⟨(Nat.le_of_ble_eq_true rfl), (Nat.le_of_ble_eq_true rfl)⟩ rfl ?_
  refine R_iload_n dX9_turn_16 rfl rfl ?_
  refine G_cV1 cw_X9_88 (s_X8_turnOver hf hn hc1) dX9_turn_17 (rcv cok8 (by first | exact rfl | assumption) (Nat.le_of_ble_eq_true rfl)) ⟨(Nat.le_of_ble_eq_true rfl), (Nat.le_of_ble_eq_true rfl), (Nat.le_of_ble_eq_true rfl), (Nat.le_of_ble_eq_true rfl)⟩ ?_
  by_cases h9 : (wTur (hcp M 42 1 n) v).1 = -1
  · have hs9 := s_X9_settled (r := r) hf (x := (wTur (hcp M 42 1 n) v).1) hn hcb hzb hP
    rw [setZ, if_pos h9] at hs9 ⊢
    exact G_xV1 cw_X9_75 hs9 dX9_turn_20 (rcv cok9 rfl (Nat.le_of_ble_eq_true rfl)) ⟨(Nat.le_of_ble_eq_true rfl), (Nat.le_of_ble_eq_true rfl), (Nat.le_of_ble_eq_true rfl), (Nat.le_of_ble_eq_true rfl)⟩ ⟨rfl, rfl⟩
  · have hs9 := s_X9_settled (r := r) hf (x := (wTur (hcp M 42 1 n) v).1) hn hcb hzb hP
    rw [setZ, if_neg h9] at hs9 ⊢
    refine G_tV1 cw_X9_75 hs9 dX9_turn_20 (rcv cok9 rfl (Nat.le_of_ble_eq_true rfl)) ⟨(Nat.le_of_ble_eq_true rfl), (Nat.le_of_ble_eq_true rfl), (Nat.le_of_ble_eq_true rfl), (Nat.le_of_ble_eq_true rfl)⟩ ?_
    exact R_iret dX9_turn_23 rfl (Nat.le_of_ble_eq_true rfl) (Nat.le_of_ble_eq_true rfl) ⟨rfl, rfl⟩
theorem s_X9_turnAll {l : Launch} (hf : l.stackTraces = false) {n : Nat} (hn : n ≤ 12) (hc : M 1 2 = nI n) (hz : flg M 1 n) (hP : prm r.1) {v : Int32} : V_X9_turnAll l [.ref 0, .int v] (hp M r) (setZ (wTrk (hcp M 42 1 n) n v).1 (wTrk (hcp M 42 1 n) n v).2 r n) := by
  refine VM.intro (lf := L9 (some (.ref 0)) (some (.int v)) none none none none none none none) (by decide +kernel) hf (fun _ => (Nat.le_of_ble_eq_true rfl)) (fun _ => rfl) ?_
  have hc1 : hcp M 42 1 n 1 2 = nI n := by rw [hcp_1 hn (by omega)]; exact hc
  have hz1 : flg (hcp M 42 1 n) 1 n := flg_eq (fun x h1 h2 => hcp_1 hn (by omega)) hn hz
  have ho : outW (hcp M 42 1 n) (wTrk (hcp M 42 1 n) n v).2 := outW_Trk hn
  have hcb : (wTrk (hcp M 42 1 n) n v).2 42 2 = nI n := by rw [ho 42 (by omega), hcp_self hn]; exact hc
  have hzb : flg (wTrk (hcp M 42 1 n) n v).2 42 n := flg_eq (fun x h1 h2 => ho x (by omega)) hn (flg_hcp hn (by omega) hz)
  refine R_aload_n dX9_turnAll_0 rfl rfl ?_
  refine G_get cok9 1 wf_X9_16 dX9_turnAll_1 (by first | exact rfl | assumption) ⟨(Nat.le_of_ble_eq_true rfl), (Nat.le_of_ble_eq_true rfl)⟩ rfl ?_
  refine R_aload_n dX9_turnAll_4 rfl rfl ?_
  refine G_get cok9 0 wf_X9_12 dX9_turnAll_5 (by first | exact rfl | assumption) ⟨(Nat.le_of_ble_eq_true rfl), (Nat.le_of_ble_eq_true rfl)⟩ rfl ?_
  refine G_cV1v cw_X9_68 (s_X3_copyFrom hf isH42 isH1 (by decide) hn hc hz) dX9_turnAll_8 (rcv cok3 (by first | exact rfl | assumption) (Nat.le_of_ble_eq_true rfl)) ⟨(Nat.le_of_ble_eq_true rfl), (Nat.le_of_ble_eq_true rfl), (Nat.le_of_ble_eq_true rfl), (Nat.le_of_ble_eq_true rfl)⟩ ?_
  refine R_aload_n dX9_turnAll_11 rfl rfl ?_
  refine R_aload_n dX9_turnAll_12 rfl rfl ?_
  refine G_get cok9 5 wf_X9_41 dX9_turnAll_13 (by first | exact rfl | assumption) ⟨(Nat.le_of_ble_eq_true rfl), (Nat.le_of_ble_eq_true rfl)⟩ rfl ?_
  refine R_iload_n dX9_turnAll_16 rfl rfl ?_
  refine G_cV1 cw_X9_91 (s_X8_turnRack hf hn hc1) dX9_turnAll_17 (rcv cok8 (by first | exact rfl | assumption) (Nat.le_of_ble_eq_true rfl)) ⟨(Nat.le_of_ble_eq_true rfl), (Nat.le_of_ble_eq_true rfl), (Nat.le_of_ble_eq_true rfl), (Nat.le_of_ble_eq_true rfl)⟩ ?_
  by_cases h9 : (wTrk (hcp M 42 1 n) n v).1 = -1
  · have hs9 := s_X9_settled (r := r) hf (x := (wTrk (hcp M 42 1 n) n v).1) hn hcb hzb hP
    rw [setZ, if_pos h9] at hs9 ⊢
    exact G_xV1 cw_X9_75 hs9 dX9_turnAll_20 (rcv cok9 rfl (Nat.le_of_ble_eq_true rfl)) ⟨(Nat.le_of_ble_eq_true rfl), (Nat.le_of_ble_eq_true rfl), (Nat.le_of_ble_eq_true rfl), (Nat.le_of_ble_eq_true rfl)⟩ ⟨rfl, rfl⟩
  · have hs9 := s_X9_settled (r := r) hf (x := (wTrk (hcp M 42 1 n) n v).1) hn hcb hzb hP
    rw [setZ, if_neg h9] at hs9 ⊢
    refine G_tV1 cw_X9_75 hs9 dX9_turnAll_20 (rcv cok9 rfl (Nat.le_of_ble_eq_true rfl)) ⟨(Nat.le_of_ble_eq_true rfl), (Nat.le_of_ble_eq_true rfl), (Nat.le_of_ble_eq_true rfl), (Nat.le_of_ble_eq_true rfl)⟩ ?_
    exact R_iret dX9_turnAll_23 rfl (Nat.le_of_ble_eq_true rfl) (Nat.le_of_ble_eq_true rfl) ⟨rfl, rfl⟩
theorem s_X9_logs {l : Launch} (hf : l.stackTraces = false) {n : Nat} (hn : n ≤ 12) (hc : M 1 2 = nI n) (hz : flg M 1 n) (hP : prm r.1) {v : Int32} : V_X9_logs l [.ref 0, .int v] (hp M r) (setZ (wLog (hcp M 42 1 n) v).1 (wLog (hcp M 42 1 n) v).2 r n) := by
  refine VM.intro (lf := L9 (some (.ref 0)) (some (.int v)) none none none none none none none) (by decide +kernel) hf (fun _ => (Nat.le_of_ble_eq_true rfl)) (fun _ => rfl) ?_
  have hc1 : hcp M 42 1 n 1 2 = nI n := by rw [hcp_1 hn (by omega)]; exact hc
  have hz1 : flg (hcp M 42 1 n) 1 n := flg_eq (fun x h1 h2 => hcp_1 hn (by omega)) hn hz
  have ho : outW (hcp M 42 1 n) (wLog (hcp M 42 1 n) v).2 := outW_Log
  have hcb : (wLog (hcp M 42 1 n) v).2 42 2 = nI n := by rw [ho 42 (by omega), hcp_self hn]; exact hc
  have hzb : flg (wLog (hcp M 42 1 n) v).2 42 n := flg_eq (fun x h1 h2 => ho x (by omega)) hn (flg_hcp hn (by omega) hz)
  refine R_aload_n dX9_logs_0 rfl rfl ?_
  refine G_get cok9 1 wf_X9_16 dX9_logs_1 (by first | exact rfl | assumption) ⟨(Nat.le_of_ble_eq_true rfl), (Nat.le_of_ble_eq_true rfl)⟩ rfl ?_
  refine R_aload_n dX9_logs_4 rfl rfl ?_
  refine G_get cok9 0 wf_X9_12 dX9_logs_5 (by first | exact rfl | assumption) ⟨(Nat.le_of_ble_eq_true rfl), (Nat.le_of_ble_eq_true rfl)⟩ rfl ?_
  refine G_cV1v cw_X9_68 (s_X3_copyFrom hf isH42 isH1 (by decide) hn hc hz) dX9_logs_8 (rcv cok3 (by first | exact rfl | assumption) (Nat.le_of_ble_eq_true rfl)) ⟨(Nat.le_of_ble_eq_true rfl), (Nat.le_of_ble_eq_true rfl), (Nat.le_of_ble_eq_true rfl), (Nat.le_of_ble_eq_true rfl)⟩ ?_
  refine R_aload_n dX9_logs_11 rfl rfl ?_
  refine R_aload_n dX9_logs_12 rfl rfl ?_
  refine G_get cok9 5 wf_X9_41 dX9_logs_13 (by first | exact rfl | assumption) ⟨(Nat.le_of_ble_eq_true rfl), (Nat.le_of_ble_eq_true rfl)⟩ rfl ?_
  refine R_iload_n dX9_logs_16 rfl rfl ?_
  refine G_cV1 cw_X9_94 (s_X8_layLogs hf hn hc1) dX9_logs_17 (rcv cok8 (by first | exact rfl | assumption) (Nat.le_of_ble_eq_true rfl)) ⟨(Nat.le_of_ble_eq_true rfl), (Nat.le_of_ble_eq_true rfl), (Nat.le_of_ble_eq_true rfl), (Nat.le_of_ble_eq_true rfl)⟩ ?_
  by_cases h9 : (wLog (hcp M 42 1 n) v).1 = -1
  · have hs9 := s_X9_settled (r := r) hf (x := (wLog (hcp M 42 1 n) v).1) hn hcb hzb hP
    rw [setZ, if_pos h9] at hs9 ⊢
    exact G_xV1 cw_X9_75 hs9 dX9_logs_20 (rcv cok9 rfl (Nat.le_of_ble_eq_true rfl)) ⟨(Nat.le_of_ble_eq_true rfl), (Nat.le_of_ble_eq_true rfl), (Nat.le_of_ble_eq_true rfl), (Nat.le_of_ble_eq_true rfl)⟩ ⟨rfl, rfl⟩
  · have hs9 := s_X9_settled (r := r) hf (x := (wLog (hcp M 42 1 n) v).1) hn hcb hzb hP
    rw [setZ, if_neg h9] at hs9 ⊢
    refine G_tV1 cw_X9_75 hs9 dX9_logs_20 (rcv cok9 rfl (Nat.le_of_ble_eq_true rfl)) ⟨(Nat.le_of_ble_eq_true rfl), (Nat.le_of_ble_eq_true rfl), (Nat.le_of_ble_eq_true rfl), (Nat.le_of_ble_eq_true rfl)⟩ ?_
    exact R_iret dX9_logs_23 rfl (Nat.le_of_ble_eq_true rfl) (Nat.le_of_ble_eq_true rfl) ⟨rfl, rfl⟩
theorem s_X9_wood {l : Launch} (hf : l.stackTraces = false) {n : Nat} (hn : n ≤ 12) (hc : M 1 2 = nI n) (hz : flg M 1 n) (hP : prm r.1) {v : Int32} : V_X9_wood l [.ref 0, .int v] (hp M r) (setZ (wWoo (hcp M 42 1 n) v).1 (wWoo (hcp M 42 1 n) v).2 r n) := by
  refine VM.intro (lf := L9 (some (.ref 0)) (some (.int v)) none none none none none none none) (by decide +kernel) hf (fun _ => (Nat.le_of_ble_eq_true rfl)) (fun _ => rfl) ?_
  have hc1 : hcp M 42 1 n 1 2 = nI n := by rw [hcp_1 hn (by omega)]; exact hc
  have hz1 : flg (hcp M 42 1 n) 1 n := flg_eq (fun x h1 h2 => hcp_1 hn (by omega)) hn hz
  have ho : outW (hcp M 42 1 n) (wWoo (hcp M 42 1 n) v).2 := outW_Woo
  have hcb : (wWoo (hcp M 42 1 n) v).2 42 2 = nI n := by rw [ho 42 (by omega), hcp_self hn]; exact hc
  have hzb : flg (wWoo (hcp M 42 1 n) v).2 42 n := flg_eq (fun x h1 h2 => ho x (by omega)) hn (flg_hcp hn (by omega) hz)
  refine R_aload_n dX9_wood_0 rfl rfl ?_
  refine G_get cok9 1 wf_X9_16 dX9_wood_1 (by first | exact rfl | assumption) ⟨(Nat.le_of_ble_eq_true rfl), (Nat.le_of_ble_eq_true rfl)⟩ rfl ?_
  refine R_aload_n dX9_wood_4 rfl rfl ?_
  refine G_get cok9 0 wf_X9_12 dX9_wood_5 (by first | exact rfl | assumption) ⟨(Nat.le_of_ble_eq_true rfl), (Nat.le_of_ble_eq_true rfl)⟩ rfl ?_
  refine G_cV1v cw_X9_68 (s_X3_copyFrom hf isH42 isH1 (by decide) hn hc hz) dX9_wood_8 (rcv cok3 (by first | exact rfl | assumption) (Nat.le_of_ble_eq_true rfl)) ⟨(Nat.le_of_ble_eq_true rfl), (Nat.le_of_ble_eq_true rfl), (Nat.le_of_ble_eq_true rfl), (Nat.le_of_ble_eq_true rfl)⟩ ?_
  refine R_aload_n dX9_wood_11 rfl rfl ?_
  refine R_aload_n dX9_wood_12 rfl rfl ?_
  refine G_get cok9 5 wf_X9_41 dX9_wood_13 (by first | exact rfl | assumption) ⟨(Nat.le_of_ble_eq_true rfl), (Nat.le_of_ble_eq_true rfl)⟩ rfl ?_
  refine R_iload_n dX9_wood_16 rfl rfl ?_
  refine G_cV1 cw_X9_97 (s_X8_tellWood hf hn hc1) dX9_wood_17 (rcv cok8 (by first | exact rfl | assumption) (Nat.le_of_ble_eq_true rfl)) ⟨(Nat.le_of_ble_eq_true rfl), (Nat.le_of_ble_eq_true rfl), (Nat.le_of_ble_eq_true rfl), (Nat.le_of_ble_eq_true rfl)⟩ ?_
  by_cases h9 : (wWoo (hcp M 42 1 n) v).1 = -1
  · have hs9 := s_X9_settled (r := r) hf (x := (wWoo (hcp M 42 1 n) v).1) hn hcb hzb hP
    rw [setZ, if_pos h9] at hs9 ⊢
    exact G_xV1 cw_X9_75 hs9 dX9_wood_20 (rcv cok9 rfl (Nat.le_of_ble_eq_true rfl)) ⟨(Nat.le_of_ble_eq_true rfl), (Nat.le_of_ble_eq_true rfl), (Nat.le_of_ble_eq_true rfl), (Nat.le_of_ble_eq_true rfl)⟩ ⟨rfl, rfl⟩
  · have hs9 := s_X9_settled (r := r) hf (x := (wWoo (hcp M 42 1 n) v).1) hn hcb hzb hP
    rw [setZ, if_neg h9] at hs9 ⊢
    refine G_tV1 cw_X9_75 hs9 dX9_wood_20 (rcv cok9 rfl (Nat.le_of_ble_eq_true rfl)) ⟨(Nat.le_of_ble_eq_true rfl), (Nat.le_of_ble_eq_true rfl), (Nat.le_of_ble_eq_true rfl), (Nat.le_of_ble_eq_true rfl)⟩ ?_
    exact R_iret dX9_wood_23 rfl (Nat.le_of_ble_eq_true rfl) (Nat.le_of_ble_eq_true rfl) ⟨rfl, rfl⟩
theorem s_X9_day {l : Launch} (hf : l.stackTraces = false) {n : Nat} (hn : n ≤ 12) (hc : M 1 2 = nI n) (hz : flg M 1 n) (hP : prm r.1) : V_X9_day l [.ref 0] (hp M r) (setZ (wDay (hcp M 42 1 n) n).1 (wDay (hcp M 42 1 n) n).2 r n) := by
  refine VM.intro (lf := L9 (some (.ref 0)) none none none none none none none none) (by decide +kernel) hf (fun _ => (Nat.le_of_ble_eq_true rfl)) (fun _ => rfl) ?_
  have hc1 : hcp M 42 1 n 1 2 = nI n := by rw [hcp_1 hn (by omega)]; exact hc
  have hz1 : flg (hcp M 42 1 n) 1 n := flg_eq (fun x h1 h2 => hcp_1 hn (by omega)) hn hz
  have ho : outW (hcp M 42 1 n) (wDay (hcp M 42 1 n) n).2 := outW_Day hn
  have hcb : (wDay (hcp M 42 1 n) n).2 42 2 = nI n := by rw [ho 42 (by omega), hcp_self hn]; exact hc
  have hzb : flg (wDay (hcp M 42 1 n) n).2 42 n := flg_eq (fun x h1 h2 => ho x (by omega)) hn (flg_hcp hn (by omega) hz)
  refine R_aload_n dX9_day_0 rfl rfl ?_
  refine G_get cok9 1 wf_X9_16 dX9_day_1 (by first | exact rfl | assumption) ⟨(Nat.le_of_ble_eq_true rfl), (Nat.le_of_ble_eq_true rfl)⟩ rfl ?_
  refine R_aload_n dX9_day_4 rfl rfl ?_
  refine G_get cok9 0 wf_X9_12 dX9_day_5 (by first | exact rfl | assumption) ⟨(Nat.le_of_ble_eq_true rfl), (Nat.le_of_ble_eq_true rfl)⟩ rfl ?_
  refine G_cV1v cw_X9_68 (s_X3_copyFrom hf isH42 isH1 (by decide) hn hc hz) dX9_day_8 (rcv cok3 (by first | exact rfl | assumption) (Nat.le_of_ble_eq_true rfl)) ⟨(Nat.le_of_ble_eq_true rfl), (Nat.le_of_ble_eq_true rfl), (Nat.le_of_ble_eq_true rfl), (Nat.le_of_ble_eq_true rfl)⟩ ?_
  refine R_aload_n dX9_day_11 rfl rfl ?_
  refine R_aload_n dX9_day_12 rfl rfl ?_
  refine G_get cok9 5 wf_X9_41 dX9_day_13 (by first | exact rfl | assumption) ⟨(Nat.le_of_ble_eq_true rfl), (Nat.le_of_ble_eq_true rfl)⟩ rfl ?_
  refine G_cV0 cw_X9_100 (s_X8_passDay hf hn hc1) dX9_day_16 (rcv cok8 (by first | exact rfl | assumption) (Nat.le_of_ble_eq_true rfl)) ⟨(Nat.le_of_ble_eq_true rfl), (Nat.le_of_ble_eq_true rfl), (Nat.le_of_ble_eq_true rfl), (Nat.le_of_ble_eq_true rfl)⟩ ?_
  by_cases h9 : (wDay (hcp M 42 1 n) n).1 = -1
  · have hs9 := s_X9_settled (r := r) hf (x := (wDay (hcp M 42 1 n) n).1) hn hcb hzb hP
    rw [setZ, if_pos h9] at hs9 ⊢
    exact G_xV1 cw_X9_75 hs9 dX9_day_19 (rcv cok9 rfl (Nat.le_of_ble_eq_true rfl)) ⟨(Nat.le_of_ble_eq_true rfl), (Nat.le_of_ble_eq_true rfl), (Nat.le_of_ble_eq_true rfl), (Nat.le_of_ble_eq_true rfl)⟩ ⟨rfl, rfl⟩
  · have hs9 := s_X9_settled (r := r) hf (x := (wDay (hcp M 42 1 n) n).1) hn hcb hzb hP
    rw [setZ, if_neg h9] at hs9 ⊢
    refine G_tV1 cw_X9_75 hs9 dX9_day_19 (rcv cok9 rfl (Nat.le_of_ble_eq_true rfl)) ⟨(Nat.le_of_ble_eq_true rfl), (Nat.le_of_ble_eq_true rfl), (Nat.le_of_ble_eq_true rfl), (Nat.le_of_ble_eq_true rfl)⟩ ?_
    exact R_iret dX9_day_22 rfl (Nat.le_of_ble_eq_true rfl) (Nat.le_of_ble_eq_true rfl) ⟨rfl, rfl⟩
theorem s_X9_hours {l : Launch} (hf : l.stackTraces = false) {n : Nat} (hn : n ≤ 12) (hc : M 1 2 = nI n) (hz : flg M 1 n) (hP : prm r.1) {v : Int32} : V_X9_hours l [.ref 0, .int v] (hp M r) (setZ (wHrs (hcp M 42 1 n) n v).1 (wHrs (hcp M 42 1 n) n v).2 r n) := by
  refine VM.intro (lf := L9 (some (.ref 0)) (some (.int v)) none none none none none none none) (by decide +kernel) hf (fun _ => (Nat.le_of_ble_eq_true rfl)) (fun _ => rfl) ?_
  have hc1 : hcp M 42 1 n 1 2 = nI n := by rw [hcp_1 hn (by omega)]; exact hc
  have hz1 : flg (hcp M 42 1 n) 1 n := flg_eq (fun x h1 h2 => hcp_1 hn (by omega)) hn hz
  have ho : outW (hcp M 42 1 n) (wHrs (hcp M 42 1 n) n v).2 := outW_Hrs hn
  have hcb : (wHrs (hcp M 42 1 n) n v).2 42 2 = nI n := by rw [ho 42 (by omega), hcp_self hn]; exact hc
  have hzb : flg (wHrs (hcp M 42 1 n) n v).2 42 n := flg_eq (fun x h1 h2 => ho x (by omega)) hn (flg_hcp hn (by omega) hz)
  refine R_aload_n dX9_hours_0 rfl rfl ?_
  refine G_get cok9 1 wf_X9_16 dX9_hours_1 (by first | exact rfl | assumption) ⟨(Nat.le_of_ble_eq_true rfl), (Nat.le_of_ble_eq_true rfl)⟩ rfl ?_
  refine R_aload_n dX9_hours_4 rfl rfl ?_
  refine G_get cok9 0 wf_X9_12 dX9_hours_5 (by first | exact rfl | assumption) ⟨(Nat.le_of_ble_eq_true rfl), (Nat.le_of_ble_eq_true rfl)⟩ rfl ?_
  refine G_cV1v cw_X9_68 (s_X3_copyFrom hf isH42 isH1 (by decide) hn hc hz) dX9_hours_8 (rcv cok3 (by first | exact rfl | assumption) (Nat.le_of_ble_eq_true rfl)) ⟨(Nat.le_of_ble_eq_true rfl), (Nat.le_of_ble_eq_true rfl), (Nat.le_of_ble_eq_true rfl), (Nat.le_of_ble_eq_true rfl)⟩ ?_
  refine R_aload_n dX9_hours_11 rfl rfl ?_
  refine R_aload_n dX9_hours_12 rfl rfl ?_
  refine G_get cok9 5 wf_X9_41 dX9_hours_13 (by first | exact rfl | assumption) ⟨(Nat.le_of_ble_eq_true rfl), (Nat.le_of_ble_eq_true rfl)⟩ rfl ?_
  refine R_iload_n dX9_hours_16 rfl rfl ?_
  refine G_cV1 cw_X9_104 (s_X8_passHours hf hn hc1) dX9_hours_17 (rcv cok8 (by first | exact rfl | assumption) (Nat.le_of_ble_eq_true rfl)) ⟨(Nat.le_of_ble_eq_true rfl), (Nat.le_of_ble_eq_true rfl), (Nat.le_of_ble_eq_true rfl), (Nat.le_of_ble_eq_true rfl)⟩ ?_
  by_cases h9 : (wHrs (hcp M 42 1 n) n v).1 = -1
  · have hs9 := s_X9_settled (r := r) hf (x := (wHrs (hcp M 42 1 n) n v).1) hn hcb hzb hP
    rw [setZ, if_pos h9] at hs9 ⊢
    exact G_xV1 cw_X9_75 hs9 dX9_hours_20 (rcv cok9 rfl (Nat.le_of_ble_eq_true rfl)) ⟨(Nat.le_of_ble_eq_true rfl), (Nat.le_of_ble_eq_true rfl), (Nat.le_of_ble_eq_true rfl), (Nat.le_of_ble_eq_true rfl)⟩ ⟨rfl, rfl⟩
  · have hs9 := s_X9_settled (r := r) hf (x := (wHrs (hcp M 42 1 n) n v).1) hn hcb hzb hP
    rw [setZ, if_neg h9] at hs9 ⊢
    refine G_tV1 cw_X9_75 hs9 dX9_hours_20 (rcv cok9 rfl (Nat.le_of_ble_eq_true rfl)) ⟨(Nat.le_of_ble_eq_true rfl), (Nat.le_of_ble_eq_true rfl), (Nat.le_of_ble_eq_true rfl), (Nat.le_of_ble_eq_true rfl)⟩ ?_
    exact R_iret dX9_hours_23 rfl (Nat.le_of_ble_eq_true rfl) (Nat.le_of_ble_eq_true rfl) ⟨rfl, rfl⟩
theorem s_X9_sell {l : Launch} (hf : l.stackTraces = false) {n : Nat} (hn : n ≤ 12) (hc : M 1 2 = nI n) (hz : flg M 1 n) (hP : prm r.1) {v : Int32} : V_X9_sell l [.ref 0, .int v] (hp M r) (setZ (wSel (hcp M 42 1 n) n v).1 (wSel (hcp M 42 1 n) n v).2 r n) := by
  refine VM.intro (lf := L9 (some (.ref 0)) (some (.int v)) none none none none none none none) (by decide +kernel) hf (fun _ => (Nat.le_of_ble_eq_true rfl)) (fun _ => rfl) ?_
  have hc1 : hcp M 42 1 n 1 2 = nI n := by rw [hcp_1 hn (by omega)]; exact hc
  have hz1 : flg (hcp M 42 1 n) 1 n := flg_eq (fun x h1 h2 => hcp_1 hn (by omega)) hn hz
  have ho : outW (hcp M 42 1 n) (wSel (hcp M 42 1 n) n v).2 := outW_Sel hc1 hn
  have hcb : (wSel (hcp M 42 1 n) n v).2 42 2 = nI n := by rw [ho 42 (by omega), hcp_self hn]; exact hc
  have hzb : flg (wSel (hcp M 42 1 n) n v).2 42 n := flg_eq (fun x h1 h2 => ho x (by omega)) hn (flg_hcp hn (by omega) hz)
  refine R_aload_n dX9_sell_0 rfl rfl ?_
  refine G_get cok9 1 wf_X9_16 dX9_sell_1 (by first | exact rfl | assumption) ⟨(Nat.le_of_ble_eq_true rfl), (Nat.le_of_ble_eq_true rfl)⟩ rfl ?_
  refine R_aload_n dX9_sell_4 rfl rfl ?_
  refine G_get cok9 0 wf_X9_12 dX9_sell_5 (by first | exact rfl | assumption) ⟨(Nat.le_of_ble_eq_true rfl), (Nat.le_of_ble_eq_true rfl)⟩ rfl ?_
  refine G_cV1v cw_X9_68 (s_X3_copyFrom hf isH42 isH1 (by decide) hn hc hz) dX9_sell_8 (rcv cok3 (by first | exact rfl | assumption) (Nat.le_of_ble_eq_true rfl)) ⟨(Nat.le_of_ble_eq_true rfl), (Nat.le_of_ble_eq_true rfl), (Nat.le_of_ble_eq_true rfl), (Nat.le_of_ble_eq_true rfl)⟩ ?_
  refine R_aload_n dX9_sell_11 rfl rfl ?_
  refine R_aload_n dX9_sell_12 rfl rfl ?_
  refine G_get cok9 5 wf_X9_41 dX9_sell_13 (by first | exact rfl | assumption) ⟨(Nat.le_of_ble_eq_true rfl), (Nat.le_of_ble_eq_true rfl)⟩ rfl ?_
  refine R_iload_n dX9_sell_16 rfl rfl ?_
  refine G_cV1 cw_X9_107 (s_X8_sellOff hf hn hc1 hz1) dX9_sell_17 (rcv cok8 (by first | exact rfl | assumption) (Nat.le_of_ble_eq_true rfl)) ⟨(Nat.le_of_ble_eq_true rfl), (Nat.le_of_ble_eq_true rfl), (Nat.le_of_ble_eq_true rfl), (Nat.le_of_ble_eq_true rfl)⟩ ?_
  by_cases h9 : (wSel (hcp M 42 1 n) n v).1 = -1
  · have hs9 := s_X9_settled (r := r) hf (x := (wSel (hcp M 42 1 n) n v).1) hn hcb hzb hP
    rw [setZ, if_pos h9] at hs9 ⊢
    exact G_xV1 cw_X9_75 hs9 dX9_sell_20 (rcv cok9 rfl (Nat.le_of_ble_eq_true rfl)) ⟨(Nat.le_of_ble_eq_true rfl), (Nat.le_of_ble_eq_true rfl), (Nat.le_of_ble_eq_true rfl), (Nat.le_of_ble_eq_true rfl)⟩ ⟨rfl, rfl⟩
  · have hs9 := s_X9_settled (r := r) hf (x := (wSel (hcp M 42 1 n) n v).1) hn hcb hzb hP
    rw [setZ, if_neg h9] at hs9 ⊢
    refine G_tV1 cw_X9_75 hs9 dX9_sell_20 (rcv cok9 rfl (Nat.le_of_ble_eq_true rfl)) ⟨(Nat.le_of_ble_eq_true rfl), (Nat.le_of_ble_eq_true rfl), (Nat.le_of_ble_eq_true rfl), (Nat.le_of_ble_eq_true rfl)⟩ ?_
    exact R_iret dX9_sell_23 rfl (Nat.le_of_ble_eq_true rfl) (Nat.le_of_ble_eq_true rfl) ⟨rfl, rfl⟩
theorem s_X9_throwAway {l : Launch} (hf : l.stackTraces = false) {n : Nat} (hn : n ≤ 12) (hc : M 1 2 = nI n) (hz : flg M 1 n) (hP : prm r.1) {v : Int32} : V_X9_throwAway l [.ref 0, .int v] (hp M r) (setZ (wDis (hcp M 42 1 n) n v).1 (wDis (hcp M 42 1 n) n v).2 r n) := by
  refine VM.intro (lf := L9 (some (.ref 0)) (some (.int v)) none none none none none none none) (by decide +kernel) hf (fun _ => (Nat.le_of_ble_eq_true rfl)) (fun _ => rfl) ?_
  have hc1 : hcp M 42 1 n 1 2 = nI n := by rw [hcp_1 hn (by omega)]; exact hc
  have hz1 : flg (hcp M 42 1 n) 1 n := flg_eq (fun x h1 h2 => hcp_1 hn (by omega)) hn hz
  have ho : outW (hcp M 42 1 n) (wDis (hcp M 42 1 n) n v).2 := outW_Dis hc1 hn
  have hcb : (wDis (hcp M 42 1 n) n v).2 42 2 = nI n := by rw [ho 42 (by omega), hcp_self hn]; exact hc
  have hzb : flg (wDis (hcp M 42 1 n) n v).2 42 n := flg_eq (fun x h1 h2 => ho x (by omega)) hn (flg_hcp hn (by omega) hz)
  refine R_aload_n dX9_throwAway_0 rfl rfl ?_
  refine G_get cok9 1 wf_X9_16 dX9_throwAway_1 (by first | exact rfl | assumption) ⟨(Nat.le_of_ble_eq_true rfl), (Nat.le_of_ble_eq_true rfl)⟩ rfl ?_
  refine R_aload_n dX9_throwAway_4 rfl rfl ?_
  refine G_get cok9 0 wf_X9_12 dX9_throwAway_5 (by first | exact rfl | assumption) ⟨(Nat.le_of_ble_eq_true rfl), (Nat.le_of_ble_eq_true rfl)⟩ rfl ?_
  refine G_cV1v cw_X9_68 (s_X3_copyFrom hf isH42 isH1 (by decide) hn hc hz) dX9_throwAway_8 (rcv cok3 (by first | exact rfl | assumption) (Nat.le_of_ble_eq_true rfl)) ⟨(Nat.le_of_ble_eq_true rfl), (Nat.le_of_ble_eq_true rfl), (Nat.le_of_ble_eq_true rfl), (Nat.le_of_ble_eq_true rfl)⟩ ?_
  refine R_aload_n dX9_throwAway_11 rfl rfl ?_
  refine R_aload_n dX9_throwAway_12 rfl rfl ?_
  refine G_get cok9 5 wf_X9_41 dX9_throwAway_13 (by first | exact rfl | assumption) ⟨(Nat.le_of_ble_eq_true rfl), (Nat.le_of_ble_eq_true rfl)⟩ rfl ?_
  refine R_iload_n dX9_throwAway_16 rfl rfl ?_
  refine G_cV1 cw_X9_110 (s_X8_discard hf hn hc1 hz1) dX9_throwAway_17 (rcv cok8 (by first | exact rfl | assumption) (Nat.le_of_ble_eq_true rfl)) ⟨(Nat.le_of_ble_eq_true rfl), (Nat.le_of_ble_eq_true rfl), (Nat.le_of_ble_eq_true rfl), (Nat.le_of_ble_eq_true rfl)⟩ ?_
  by_cases h9 : (wDis (hcp M 42 1 n) n v).1 = -1
  · have hs9 := s_X9_settled (r := r) hf (x := (wDis (hcp M 42 1 n) n v).1) hn hcb hzb hP
    rw [setZ, if_pos h9] at hs9 ⊢
    exact G_xV1 cw_X9_75 hs9 dX9_throwAway_20 (rcv cok9 rfl (Nat.le_of_ble_eq_true rfl)) ⟨(Nat.le_of_ble_eq_true rfl), (Nat.le_of_ble_eq_true rfl), (Nat.le_of_ble_eq_true rfl), (Nat.le_of_ble_eq_true rfl)⟩ ⟨rfl, rfl⟩
  · have hs9 := s_X9_settled (r := r) hf (x := (wDis (hcp M 42 1 n) n v).1) hn hcb hzb hP
    rw [setZ, if_neg h9] at hs9 ⊢
    refine G_tV1 cw_X9_75 hs9 dX9_throwAway_20 (rcv cok9 rfl (Nat.le_of_ble_eq_true rfl)) ⟨(Nat.le_of_ble_eq_true rfl), (Nat.le_of_ble_eq_true rfl), (Nat.le_of_ble_eq_true rfl), (Nat.le_of_ble_eq_true rfl)⟩ ?_
    exact R_iret dX9_throwAway_23 rfl (Nat.le_of_ble_eq_true rfl) (Nat.le_of_ble_eq_true rfl) ⟨rfl, rfl⟩
end P17
