abbrev V_X10_thrown (l : Launch) (As : List Value) (h : HP) (Z : Option Value ⊕ String → HP → Prop) : Prop := VM l yX10_thrown cX10_thrown 1 (some .int) 0 0 0 As h Z
abbrev Q_X10_thrown (l : Launch) (Z : Option Value ⊕ String → HP → Prop) (pc : Nat) (lf : Nat → Option Value) (st : List Value) (h : HP) : Prop := Q l RX10 cX10_thrown 1 0 0 0 (GM (some .int) 0 0 Z) pc lf st h 0 0
abbrev V_X10_fails (l : Launch) (As : List Value) (h : HP) (Z : Option Value ⊕ String → HP → Prop) : Prop := VM l yX10_fails cX10_fails 2 (some .boolean) 0 0 0 As h Z
abbrev Q_X10_fails (l : Launch) (Z : Option Value ⊕ String → HP → Prop) (pc : Nat) (lf : Nat → Option Value) (st : List Value) (h : HP) : Prop := Q l RX10 cX10_fails 2 0 0 0 (GM (some .boolean) 0 0 Z) pc lf st h 0 0
abbrev V_X10_refuses (l : Launch) (As : List Value) (h : HP) (Z : Option Value ⊕ String → HP → Prop) : Prop := VM l yX10_refuses cX10_refuses 3 (some .int) 0 0 0 As h Z
abbrev Q_X10_refuses (l : Launch) (Z : Option Value ⊕ String → HP → Prop) (pc : Nat) (lf : Nat → Option Value) (st : List Value) (h : HP) : Prop := Q l RX10 cX10_refuses 3 0 0 0 (GM (some .int) 0 0 Z) pc lf st h 0 0
abbrev V_X10_in (l : Launch) (As : List Value) (h : HP) (Z : Option Value ⊕ String → HP → Prop) : Prop := VM l yX10_in cX10_in 3 (some .boolean) 0 0 0 As h Z
abbrev Q_X10_in (l : Launch) (Z : Option Value ⊕ String → HP → Prop) (pc : Nat) (lf : Nat → Option Value) (st : List Value) (h : HP) : Prop := Q l RX10 cX10_in 3 0 0 0 (GM (some .boolean) 0 0 Z) pc lf st h 0 0
abbrev V_X10_atMost (l : Launch) (As : List Value) (h : HP) (Z : Option Value ⊕ String → HP → Prop) : Prop := VM l yX10_atMost cX10_atMost 2 (some .int) 0 0 0 As h Z
abbrev Q_X10_atMost (l : Launch) (Z : Option Value ⊕ String → HP → Prop) (pc : Nat) (lf : Nat → Option Value) (st : List Value) (h : HP) : Prop := Q l RX10 cX10_atMost 2 0 0 0 (GM (some .int) 0 0 Z) pc lf st h 0 0
abbrev V_X10_copies (l : Launch) (As : List Value) (h : HP) (Z : Option Value ⊕ String → HP → Prop) : Prop := VM l yX10_copies cX10_copies 5 none 0 0 0 As h Z
abbrev Q_X10_copies (l : Launch) (Z : Option Value ⊕ String → HP → Prop) (pc : Nat) (lf : Nat → Option Value) (st : List Value) (h : HP) : Prop := Q l RX10 cX10_copies 5 0 0 0 (GM none 0 0 Z) pc lf st h 0 0
abbrev V_X10_keeps (l : Launch) (As : List Value) (h : HP) (Z : Option Value ⊕ String → HP → Prop) : Prop := VM l yX10_keeps cX10_keeps 3 none 1 0 0 As h Z
abbrev Q_X10_keeps (l : Launch) (Z : Option Value ⊕ String → HP → Prop) (pc : Nat) (lf : Nat → Option Value) (st : List Value) (h : HP) : Prop := Q l RX10 cX10_keeps 3 1 0 0 (GM none 0 0 Z) pc lf st h 0 0
abbrev V_X10_of (l : Launch) (As : List Value) (h : HP) (Z : Option Value ⊕ String → HP → Prop) : Prop := VM l yX10_of cX10_of 3 (some .int) 0 0 0 As h Z
abbrev Q_X10_of (l : Launch) (Z : Option Value ⊕ String → HP → Prop) (pc : Nat) (lf : Nat → Option Value) (st : List Value) (h : HP) : Prop := Q l RX10 cX10_of 3 0 0 0 (GM (some .int) 0 0 Z) pc lf st h 0 0
abbrev V_X10_lays (l : Launch) (As : List Value) (h : HP) (Z : Option Value ⊕ String → HP → Prop) : Prop := VM l yX10_lays cX10_lays 4 none 0 0 0 As h Z
abbrev Q_X10_lays (l : Launch) (Z : Option Value ⊕ String → HP → Prop) (pc : Nat) (lf : Nat → Option Value) (st : List Value) (h : HP) : Prop := Q l RX10 cX10_lays 4 0 0 0 (GM none 0 0 Z) pc lf st h 0 0
abbrev V_X10_isFish (l : Launch) (As : List Value) (h : HP) (Z : Option Value ⊕ String → HP → Prop) : Prop := VM l yX10_isFish cX10_isFish 2 (some .boolean) 1 0 0 As h Z
abbrev Q_X10_isFish (l : Launch) (Z : Option Value ⊕ String → HP → Prop) (pc : Nat) (lf : Nat → Option Value) (st : List Value) (h : HP) : Prop := Q l RX10 cX10_isFish 2 1 0 0 (GM (some .boolean) 0 0 Z) pc lf st h 0 0
abbrev V_X10_many (l : Launch) (As : List Value) (h : HP) (Z : Option Value ⊕ String → HP → Prop) : Prop := VM l yX10_many cX10_many 4 (some .int) 1 0 0 As h Z
abbrev Q_X10_many (l : Launch) (Z : Option Value ⊕ String → HP → Prop) (pc : Nat) (lf : Nat → Option Value) (st : List Value) (h : HP) : Prop := Q l RX10 cX10_many 4 1 0 0 (GM (some .int) 0 0 Z) pc lf st h 0 0
abbrev V_X10_hangs (l : Launch) (As : List Value) (h : HP) (Z : Option Value ⊕ String → HP → Prop) : Prop := VM l yX10_hangs cX10_hangs 2 (some .boolean) 1 0 0 As h Z
abbrev Q_X10_hangs (l : Launch) (Z : Option Value ⊕ String → HP → Prop) (pc : Nat) (lf : Nat → Option Value) (st : List Value) (h : HP) : Prop := Q l RX10 cX10_hangs 2 1 0 0 (GM (some .boolean) 0 0 Z) pc lf st h 0 0
abbrev V_X10_onRack (l : Launch) (As : List Value) (h : HP) (Z : Option Value ⊕ String → HP → Prop) : Prop := VM l yX10_onRack cX10_onRack 4 (some .int) 2 0 0 As h Z
abbrev Q_X10_onRack (l : Launch) (Z : Option Value ⊕ String → HP → Prop) (pc : Nat) (lf : Nat → Option Value) (st : List Value) (h : HP) : Prop := Q l RX10 cX10_onRack 4 2 0 0 (GM (some .int) 0 0 Z) pc lf st h 0 0
abbrev V_X10_onHook (l : Launch) (As : List Value) (h : HP) (Z : Option Value ⊕ String → HP → Prop) : Prop := VM l yX10_onHook cX10_onHook 4 (some .int) 2 0 0 As h Z
abbrev Q_X10_onHook (l : Launch) (Z : Option Value ⊕ String → HP → Prop) (pc : Nat) (lf : Nat → Option Value) (st : List Value) (h : HP) : Prop := Q l RX10 cX10_onHook 4 2 0 0 (GM (some .int) 0 0 Z) pc lf st h 0 0
abbrev V_X10_gap (l : Launch) (As : List Value) (h : HP) (Z : Option Value ⊕ String → HP → Prop) : Prop := VM l yX10_gap cX10_gap 2 (some .int) 0 0 0 As h Z
abbrev Q_X10_gap (l : Launch) (Z : Option Value ⊕ String → HP → Prop) (pc : Nat) (lf : Nat → Option Value) (st : List Value) (h : HP) : Prop := Q l RX10 cX10_gap 2 0 0 0 (GM (some .int) 0 0 Z) pc lf st h 0 0
abbrev V_X10_far (l : Launch) (As : List Value) (h : HP) (Z : Option Value ⊕ String → HP → Prop) : Prop := VM l yX10_far cX10_far 6 (some .int) 2 0 0 As h Z
abbrev Q_X10_far (l : Launch) (Z : Option Value ⊕ String → HP → Prop) (pc : Nat) (lf : Nat → Option Value) (st : List Value) (h : HP) : Prop := Q l RX10 cX10_far 6 2 0 0 (GM (some .int) 0 0 Z) pc lf st h 0 0
abbrev V_X10_needs (l : Launch) (As : List Value) (h : HP) (Z : Option Value ⊕ String → HP → Prop) : Prop := VM l yX10_needs cX10_needs 2 (some .int) 1 0 0 As h Z
abbrev Q_X10_needs (l : Launch) (Z : Option Value ⊕ String → HP → Prop) (pc : Nat) (lf : Nat → Option Value) (st : List Value) (h : HP) : Prop := Q l RX10 cX10_needs 2 1 0 0 (GM (some .int) 0 0 Z) pc lf st h 0 0
abbrev V_X10_isNear (l : Launch) (As : List Value) (h : HP) (Z : Option Value ⊕ String → HP → Prop) : Prop := VM l yX10_isNear cX10_isNear 2 (some .boolean) 3 0 0 As h Z
abbrev Q_X10_isNear (l : Launch) (Z : Option Value ⊕ String → HP → Prop) (pc : Nat) (lf : Nat → Option Value) (st : List Value) (h : HP) : Prop := Q l RX10 cX10_isNear 2 3 0 0 (GM (some .boolean) 0 0 Z) pc lf st h 0 0
abbrev V_X10_bears (l : Launch) (As : List Value) (h : HP) (Z : Option Value ⊕ String → HP → Prop) : Prop := VM l yX10_bears cX10_bears 2 (some .int) 1 0 0 As h Z
abbrev Q_X10_bears (l : Launch) (Z : Option Value ⊕ String → HP → Prop) (pc : Nat) (lf : Nat → Option Value) (st : List Value) (h : HP) : Prop := Q l RX10 cX10_bears 2 1 0 0 (GM (some .int) 0 0 Z) pc lf st h 0 0
abbrev V_X10_heatOf (l : Launch) (As : List Value) (h : HP) (Z : Option Value ⊕ String → HP → Prop) : Prop := VM l yX10_heatOf cX10_heatOf 2 (some .int) 0 0 0 As h Z
abbrev Q_X10_heatOf (l : Launch) (Z : Option Value ⊕ String → HP → Prop) (pc : Nat) (lf : Nat → Option Value) (st : List Value) (h : HP) : Prop := Q l RX10 cX10_heatOf 2 0 0 0 (GM (some .int) 0 0 Z) pc lf st h 0 0
abbrev V_X10_isBurnt (l : Launch) (As : List Value) (h : HP) (Z : Option Value ⊕ String → HP → Prop) : Prop := VM l yX10_isBurnt cX10_isBurnt 2 (some .boolean) 1 0 0 As h Z
abbrev Q_X10_isBurnt (l : Launch) (Z : Option Value ⊕ String → HP → Prop) (pc : Nat) (lf : Nat → Option Value) (st : List Value) (h : HP) : Prop := Q l RX10 cX10_isBurnt 2 1 0 0 (GM (some .boolean) 0 0 Z) pc lf st h 0 0
abbrev V_X10_lacks (l : Launch) (As : List Value) (h : HP) (Z : Option Value ⊕ String → HP → Prop) : Prop := VM l yX10_lacks cX10_lacks 5 (some .int) 1 0 0 As h Z
abbrev Q_X10_lacks (l : Launch) (Z : Option Value ⊕ String → HP → Prop) (pc : Nat) (lf : Nat → Option Value) (st : List Value) (h : HP) : Prop := Q l RX10 cX10_lacks 5 1 0 0 (GM (some .int) 0 0 Z) pc lf st h 0 0
abbrev V_X10_isReady (l : Launch) (As : List Value) (h : HP) (Z : Option Value ⊕ String → HP → Prop) : Prop := VM l yX10_isReady cX10_isReady 2 (some .boolean) 2 0 0 As h Z
abbrev Q_X10_isReady (l : Launch) (Z : Option Value ⊕ String → HP → Prop) (pc : Nat) (lf : Nat → Option Value) (st : List Value) (h : HP) : Prop := Q l RX10 cX10_isReady 2 2 0 0 (GM (some .boolean) 0 0 Z) pc lf st h 0 0
abbrev V_X10_price (l : Launch) (As : List Value) (h : HP) (Z : Option Value ⊕ String → HP → Prop) : Prop := VM l yX10_price cX10_price 2 (some .int) 1 0 0 As h Z
abbrev Q_X10_price (l : Launch) (Z : Option Value ⊕ String → HP → Prop) (pc : Nat) (lf : Nat → Option Value) (st : List Value) (h : HP) : Prop := Q l RX10 cX10_price 2 1 0 0 (GM (some .int) 0 0 Z) pc lf st h 0 0
abbrev V_X10_burnt (l : Launch) (As : List Value) (h : HP) (Z : Option Value ⊕ String → HP → Prop) : Prop := VM l yX10_burnt cX10_burnt 3 (some .int) 2 0 0 As h Z
abbrev Q_X10_burnt (l : Launch) (Z : Option Value ⊕ String → HP → Prop) (pc : Nat) (lf : Nat → Option Value) (st : List Value) (h : HP) : Prop := Q l RX10 cX10_burnt 3 2 0 0 (GM (some .int) 0 0 Z) pc lf st h 0 0
abbrev V_X10_smokes (l : Launch) (As : List Value) (h : HP) (Z : Option Value ⊕ String → HP → Prop) : Prop := VM l yX10_smokes cX10_smokes 5 none 4 0 0 As h Z
abbrev Q_X10_smokes (l : Launch) (Z : Option Value ⊕ String → HP → Prop) (pc : Nat) (lf : Nat → Option Value) (st : List Value) (h : HP) : Prop := Q l RX10 cX10_smokes 5 4 0 0 (GM none 0 0 Z) pc lf st h 0 0
abbrev V_X10_hour (l : Launch) (As : List Value) (h : HP) (Z : Option Value ⊕ String → HP → Prop) : Prop := VM l yX10_hour cX10_hour 2 none 5 0 0 As h Z
abbrev Q_X10_hour (l : Launch) (Z : Option Value ⊕ String → HP → Prop) (pc : Nat) (lf : Nat → Option Value) (st : List Value) (h : HP) : Prop := Q l RX10 cX10_hour 2 5 0 0 (GM none 0 0 Z) pc lf st h 0 0
abbrev V_X10_turns (l : Launch) (As : List Value) (h : HP) (Z : Option Value ⊕ String → HP → Prop) : Prop := VM l yX10_turns cX10_turns 2 none 1 0 0 As h Z
abbrev Q_X10_turns (l : Launch) (Z : Option Value ⊕ String → HP → Prop) (pc : Nat) (lf : Nat → Option Value) (st : List Value) (h : HP) : Prop := Q l RX10 cX10_turns 2 1 0 0 (GM none 0 0 Z) pc lf st h 0 0
abbrev V_X10_fish (l : Launch) (As : List Value) (h : HP) (Z : Option Value ⊕ String → HP → Prop) : Prop := VM l yX10_fish cX10_fish 4 (some .int) 2 0 0 As h Z
abbrev Q_X10_fish (l : Launch) (Z : Option Value ⊕ String → HP → Prop) (pc : Nat) (lf : Nat → Option Value) (st : List Value) (h : HP) : Prop := Q l RX10 cX10_fish 4 2 0 0 (GM (some .int) 0 0 Z) pc lf st h 0 0
abbrev V_X10_brine (l : Launch) (As : List Value) (h : HP) (Z : Option Value ⊕ String → HP → Prop) : Prop := VM l yX10_brine cX10_brine 2 (some .int) 2 0 0 As h Z
abbrev Q_X10_brine (l : Launch) (Z : Option Value ⊕ String → HP → Prop) (pc : Nat) (lf : Nat → Option Value) (st : List Value) (h : HP) : Prop := Q l RX10 cX10_brine 2 2 0 0 (GM (some .int) 0 0 Z) pc lf st h 0 0
abbrev V_X10_out (l : Launch) (As : List Value) (h : HP) (Z : Option Value ⊕ String → HP → Prop) : Prop := VM l yX10_out cX10_out 2 (some .int) 2 0 0 As h Z
abbrev Q_X10_out (l : Launch) (Z : Option Value ⊕ String → HP → Prop) (pc : Nat) (lf : Nat → Option Value) (st : List Value) (h : HP) : Prop := Q l RX10 cX10_out 2 2 0 0 (GM (some .int) 0 0 Z) pc lf st h 0 0
abbrev V_X10_isHook (l : Launch) (As : List Value) (h : HP) (Z : Option Value ⊕ String → HP → Prop) : Prop := VM l yX10_isHook cX10_isHook 2 (some .boolean) 1 0 0 As h Z
abbrev Q_X10_isHook (l : Launch) (Z : Option Value ⊕ String → HP → Prop) (pc : Nat) (lf : Nat → Option Value) (st : List Value) (h : HP) : Prop := Q l RX10 cX10_isHook 2 1 0 0 (GM (some .boolean) 0 0 Z) pc lf st h 0 0
abbrev V_X10_hang (l : Launch) (As : List Value) (h : HP) (Z : Option Value ⊕ String → HP → Prop) : Prop := VM l yX10_hang cX10_hang 4 (some .int) 3 0 0 As h Z
abbrev Q_X10_hang (l : Launch) (Z : Option Value ⊕ String → HP → Prop) (pc : Nat) (lf : Nat → Option Value) (st : List Value) (h : HP) : Prop := Q l RX10 cX10_hang 4 3 0 0 (GM (some .int) 0 0 Z) pc lf st h 0 0
abbrev V_X10_turn (l : Launch) (As : List Value) (h : HP) (Z : Option Value ⊕ String → HP → Prop) : Prop := VM l yX10_turn cX10_turn 2 (some .int) 2 0 0 As h Z
abbrev Q_X10_turn (l : Launch) (Z : Option Value ⊕ String → HP → Prop) (pc : Nat) (lf : Nat → Option Value) (st : List Value) (h : HP) : Prop := Q l RX10 cX10_turn 2 2 0 0 (GM (some .int) 0 0 Z) pc lf st h 0 0
abbrev V_X10_turnAll (l : Launch) (As : List Value) (h : HP) (Z : Option Value ⊕ String → HP → Prop) : Prop := VM l yX10_turnAll cX10_turnAll 4 (some .int) 3 0 0 As h Z
abbrev Q_X10_turnAll (l : Launch) (Z : Option Value ⊕ String → HP → Prop) (pc : Nat) (lf : Nat → Option Value) (st : List Value) (h : HP) : Prop := Q l RX10 cX10_turnAll 4 3 0 0 (GM (some .int) 0 0 Z) pc lf st h 0 0
abbrev V_X10_logs (l : Launch) (As : List Value) (h : HP) (Z : Option Value ⊕ String → HP → Prop) : Prop := VM l yX10_logs cX10_logs 2 (some .int) 2 0 0 As h Z
abbrev Q_X10_logs (l : Launch) (Z : Option Value ⊕ String → HP → Prop) (pc : Nat) (lf : Nat → Option Value) (st : List Value) (h : HP) : Prop := Q l RX10 cX10_logs 2 2 0 0 (GM (some .int) 0 0 Z) pc lf st h 0 0
abbrev V_X10_wood (l : Launch) (As : List Value) (h : HP) (Z : Option Value ⊕ String → HP → Prop) : Prop := VM l yX10_wood cX10_wood 3 (some .int) 2 0 0 As h Z
abbrev Q_X10_wood (l : Launch) (Z : Option Value ⊕ String → HP → Prop) (pc : Nat) (lf : Nat → Option Value) (st : List Value) (h : HP) : Prop := Q l RX10 cX10_wood 3 2 0 0 (GM (some .int) 0 0 Z) pc lf st h 0 0
abbrev V_X10_day (l : Launch) (As : List Value) (h : HP) (Z : Option Value ⊕ String → HP → Prop) : Prop := VM l yX10_day cX10_day 3 (some .int) 2 0 0 As h Z
abbrev Q_X10_day (l : Launch) (Z : Option Value ⊕ String → HP → Prop) (pc : Nat) (lf : Nat → Option Value) (st : List Value) (h : HP) : Prop := Q l RX10 cX10_day 3 2 0 0 (GM (some .int) 0 0 Z) pc lf st h 0 0
abbrev V_X10_hours (l : Launch) (As : List Value) (h : HP) (Z : Option Value ⊕ String → HP → Prop) : Prop := VM l yX10_hours cX10_hours 3 (some .int) 6 0 0 As h Z
abbrev Q_X10_hours (l : Launch) (Z : Option Value ⊕ String → HP → Prop) (pc : Nat) (lf : Nat → Option Value) (st : List Value) (h : HP) : Prop := Q l RX10 cX10_hours 3 6 0 0 (GM (some .int) 0 0 Z) pc lf st h 0 0
abbrev V_X10_goes (l : Launch) (As : List Value) (h : HP) (Z : Option Value ⊕ String → HP → Prop) : Prop := VM l yX10_goes cX10_goes 3 none 1 0 0 As h Z
abbrev Q_X10_goes (l : Launch) (Z : Option Value ⊕ String → HP → Prop) (pc : Nat) (lf : Nat → Option Value) (st : List Value) (h : HP) : Prop := Q l RX10 cX10_goes 3 1 0 0 (GM none 0 0 Z) pc lf st h 0 0
abbrev V_X10_sell (l : Launch) (As : List Value) (h : HP) (Z : Option Value ⊕ String → HP → Prop) : Prop := VM l yX10_sell cX10_sell 3 (some .int) 3 0 0 As h Z
abbrev Q_X10_sell (l : Launch) (Z : Option Value ⊕ String → HP → Prop) (pc : Nat) (lf : Nat → Option Value) (st : List Value) (h : HP) : Prop := Q l RX10 cX10_sell 3 3 0 0 (GM (some .int) 0 0 Z) pc lf st h 0 0
abbrev V_X10_throwAway (l : Launch) (As : List Value) (h : HP) (Z : Option Value ⊕ String → HP → Prop) : Prop := VM l yX10_throwAway cX10_throwAway 3 (some .int) 2 0 0 As h Z
abbrev Q_X10_throwAway (l : Launch) (Z : Option Value ⊕ String → HP → Prop) (pc : Nat) (lf : Nat → Option Value) (st : List Value) (h : HP) : Prop := Q l RX10 cX10_throwAway 3 2 0 0 (GM (some .int) 0 0 Z) pc lf st h 0 0
abbrev V_X10_fishOf (l : Launch) (As : List Value) (h : HP) (Z : Option Value ⊕ String → HP → Prop) : Prop := VM l yX10_fishOf cX10_fishOf 3 (some .int) 2 0 0 As h Z
abbrev Q_X10_fishOf (l : Launch) (Z : Option Value ⊕ String → HP → Prop) (pc : Nat) (lf : Nat → Option Value) (st : List Value) (h : HP) : Prop := Q l RX10 cX10_fishOf 3 2 0 0 (GM (some .int) 0 0 Z) pc lf st h 0 0
abbrev V_X10_sideOf (l : Launch) (As : List Value) (h : HP) (Z : Option Value ⊕ String → HP → Prop) : Prop := VM l yX10_sideOf cX10_sideOf 4 (some .int) 2 0 0 As h Z
abbrev Q_X10_sideOf (l : Launch) (Z : Option Value ⊕ String → HP → Prop) (pc : Nat) (lf : Nat → Option Value) (st : List Value) (h : HP) : Prop := Q l RX10 cX10_sideOf 4 2 0 0 (GM (some .int) 0 0 Z) pc lf st h 0 0
abbrev V_X10_at (l : Launch) (As : List Value) (h : HP) (Z : Option Value ⊕ String → HP → Prop) : Prop := VM l yX10_at cX10_at 3 (some .int) 3 0 0 As h Z
abbrev Q_X10_at (l : Launch) (Z : Option Value ⊕ String → HP → Prop) (pc : Nat) (lf : Nat → Option Value) (st : List Value) (h : HP) : Prop := Q l RX10 cX10_at 3 3 0 0 (GM (some .int) 0 0 Z) pc lf st h 0 0
abbrev V_X10_heat (l : Launch) (As : List Value) (h : HP) (Z : Option Value ⊕ String → HP → Prop) : Prop := VM l yX10_heat cX10_heat 2 (some .int) 1 0 0 As h Z
abbrev Q_X10_heat (l : Launch) (Z : Option Value ⊕ String → HP → Prop) (pc : Nat) (lf : Nat → Option Value) (st : List Value) (h : HP) : Prop := Q l RX10 cX10_heat 2 1 0 0 (GM (some .int) 0 0 Z) pc lf st h 0 0
abbrev V_X10_nearest (l : Launch) (As : List Value) (h : HP) (Z : Option Value ⊕ String → HP → Prop) : Prop := VM l yX10_nearest cX10_nearest 3 (some .int) 3 0 0 As h Z
abbrev Q_X10_nearest (l : Launch) (Z : Option Value ⊕ String → HP → Prop) (pc : Nat) (lf : Nat → Option Value) (st : List Value) (h : HP) : Prop := Q l RX10 cX10_nearest 3 3 0 0 (GM (some .int) 0 0 Z) pc lf st h 0 0
abbrev V_X10_isCrowded (l : Launch) (As : List Value) (h : HP) (Z : Option Value ⊕ String → HP → Prop) : Prop := VM l yX10_isCrowded cX10_isCrowded 2 (some .boolean) 4 0 0 As h Z
abbrev Q_X10_isCrowded (l : Launch) (Z : Option Value ⊕ String → HP → Prop) (pc : Nat) (lf : Nat → Option Value) (st : List Value) (h : HP) : Prop := Q l RX10 cX10_isCrowded 2 4 0 0 (GM (some .boolean) 0 0 Z) pc lf st h 0 0
abbrev V_X10_isDone (l : Launch) (As : List Value) (h : HP) (Z : Option Value ⊕ String → HP → Prop) : Prop := VM l yX10_isDone cX10_isDone 2 (some .boolean) 3 0 0 As h Z
abbrev Q_X10_isDone (l : Launch) (Z : Option Value ⊕ String → HP → Prop) (pc : Nat) (lf : Nat → Option Value) (st : List Value) (h : HP) : Prop := Q l RX10 cX10_isDone 2 3 0 0 (GM (some .boolean) 0 0 Z) pc lf st h 0 0
abbrev V_X10_wouldChar (l : Launch) (As : List Value) (h : HP) (Z : Option Value ⊕ String → HP → Prop) : Prop := VM l yX10_wouldChar cX10_wouldChar 4 (some .int) 6 0 0 As h Z
abbrev Q_X10_wouldChar (l : Launch) (Z : Option Value ⊕ String → HP → Prop) (pc : Nat) (lf : Nat → Option Value) (st : List Value) (h : HP) : Prop := Q l RX10 cX10_wouldChar 4 6 0 0 (GM (some .int) 0 0 Z) pc lf st h 0 0
abbrev V_X10_wouldCharAgain (l : Launch) (As : List Value) (h : HP) (Z : Option Value ⊕ String → HP → Prop) : Prop := VM l yX10_wouldCharAgain cX10_wouldCharAgain 3 (some .int) 7 0 0 As h Z
abbrev Q_X10_wouldCharAgain (l : Launch) (Z : Option Value ⊕ String → HP → Prop) (pc : Nat) (lf : Nat → Option Value) (st : List Value) (h : HP) : Prop := Q l RX10 cX10_wouldCharAgain 3 7 0 0 (GM (some .int) 0 0 Z) pc lf st h 0 0
abbrev V_X10_burns (l : Launch) (As : List Value) (h : HP) (Z : Option Value ⊕ String → HP → Prop) : Prop := VM l yX10_burns cX10_burns 4 (some .int) 6 0 0 As h Z
abbrev Q_X10_burns (l : Launch) (Z : Option Value ⊕ String → HP → Prop) (pc : Nat) (lf : Nat → Option Value) (st : List Value) (h : HP) : Prop := Q l RX10 cX10_burns 4 6 0 0 (GM (some .int) 0 0 Z) pc lf st h 0 0
abbrev V_X10_burnsIn (l : Launch) (As : List Value) (h : HP) (Z : Option Value ⊕ String → HP → Prop) : Prop := VM l yX10_burnsIn cX10_burnsIn 3 (some .int) 7 0 0 As h Z
abbrev Q_X10_burnsIn (l : Launch) (Z : Option Value ⊕ String → HP → Prop) (pc : Nat) (lf : Nat → Option Value) (st : List Value) (h : HP) : Prop := Q l RX10 cX10_burnsIn 3 7 0 0 (GM (some .int) 0 0 Z) pc lf st h 0 0
abbrev V_X10_doneIn (l : Launch) (As : List Value) (h : HP) (Z : Option Value ⊕ String → HP → Prop) : Prop := VM l yX10_doneIn cX10_doneIn 4 (some .int) 6 0 0 As h Z
abbrev Q_X10_doneIn (l : Launch) (Z : Option Value ⊕ String → HP → Prop) (pc : Nat) (lf : Nat → Option Value) (st : List Value) (h : HP) : Prop := Q l RX10 cX10_doneIn 4 6 0 0 (GM (some .int) 0 0 Z) pc lf st h 0 0
abbrev V_X10_hottest (l : Launch) (As : List Value) (h : HP) (Z : Option Value ⊕ String → HP → Prop) : Prop := VM l yX10_hottest cX10_hottest 5 (some .int) 7 0 0 As h Z
abbrev Q_X10_hottest (l : Launch) (Z : Option Value ⊕ String → HP → Prop) (pc : Nat) (lf : Nat → Option Value) (st : List Value) (h : HP) : Prop := Q l RX10 cX10_hottest 5 7 0 0 (GM (some .int) 0 0 Z) pc lf st h 0 0
abbrev V_X10_bestHook (l : Launch) (As : List Value) (h : HP) (Z : Option Value ⊕ String → HP → Prop) : Prop := VM l yX10_bestHook cX10_bestHook 7 (some .int) 3 0 0 As h Z
abbrev Q_X10_bestHook (l : Launch) (Z : Option Value ⊕ String → HP → Prop) (pc : Nat) (lf : Nat → Option Value) (st : List Value) (h : HP) : Prop := Q l RX10 cX10_bestHook 7 3 0 0 (GM (some .int) 0 0 Z) pc lf st h 0 0
abbrev V_X10_crowded (l : Launch) (As : List Value) (h : HP) (Z : Option Value ⊕ String → HP → Prop) : Prop := VM l yX10_crowded cX10_crowded 3 (some .int) 4 0 0 As h Z
abbrev Q_X10_crowded (l : Launch) (Z : Option Value ⊕ String → HP → Prop) (pc : Nat) (lf : Nat → Option Value) (st : List Value) (h : HP) : Prop := Q l RX10 cX10_crowded 3 4 0 0 (GM (some .int) 0 0 Z) pc lf st h 0 0
abbrev V_X10_measured (l : Launch) (As : List Value) (h : HP) (Z : Option Value ⊕ String → HP → Prop) : Prop := VM l yX10_measured cX10_measured 3 (some .int) 2 0 0 As h Z
abbrev Q_X10_measured (l : Launch) (Z : Option Value ⊕ String → HP → Prop) (pc : Nat) (lf : Nat → Option Value) (st : List Value) (h : HP) : Prop := Q l RX10 cX10_measured 3 2 0 0 (GM (some .int) 0 0 Z) pc lf st h 0 0
abbrev V_X10_ranked (l : Launch) (As : List Value) (h : HP) (Z : Option Value ⊕ String → HP → Prop) : Prop := VM l yX10_ranked cX10_ranked 6 (some .int) 3 0 0 As h Z
abbrev Q_X10_ranked (l : Launch) (Z : Option Value ⊕ String → HP → Prop) (pc : Nat) (lf : Nat → Option Value) (st : List Value) (h : HP) : Prop := Q l RX10 cX10_ranked 6 3 0 0 (GM (some .int) 0 0 Z) pc lf st h 0 0
abbrev V_X10_append (l : Launch) (As : List Value) (h : HP) (Z : Option Value ⊕ String → HP → Prop) : Prop := VM l yX10_append cX10_append 2 (some .int) 1 0 0 As h Z
abbrev Q_X10_append (l : Launch) (Z : Option Value ⊕ String → HP → Prop) (pc : Nat) (lf : Nat → Option Value) (st : List Value) (h : HP) : Prop := Q l RX10 cX10_append 2 1 0 0 (GM (some .int) 0 0 Z) pc lf st h 0 0
abbrev V_X10_here (l : Launch) (As : List Value) (h : HP) (Z : Option Value ⊕ String → HP → Prop) : Prop := VM l yX10_here cX10_here 1 (some .int) 0 0 0 As h Z
abbrev Q_X10_here (l : Launch) (Z : Option Value ⊕ String → HP → Prop) (pc : Nat) (lf : Nat → Option Value) (st : List Value) (h : HP) : Prop := Q l RX10 cX10_here 1 0 0 0 (GM (some .int) 0 0 Z) pc lf st h 0 0
abbrev V_X10_skips (l : Launch) (As : List Value) (h : HP) (Z : Option Value ⊕ String → HP → Prop) : Prop := VM l yX10_skips cX10_skips 2 (some .boolean) 1 0 0 As h Z
abbrev Q_X10_skips (l : Launch) (Z : Option Value ⊕ String → HP → Prop) (pc : Nat) (lf : Nat → Option Value) (st : List Value) (h : HP) : Prop := Q l RX10 cX10_skips 2 1 0 0 (GM (some .boolean) 0 0 Z) pc lf st h 0 0
abbrev V_X10_figures (l : Launch) (As : List Value) (h : HP) (Z : Option Value ⊕ String → HP → Prop) : Prop := VM l yX10_figures cX10_figures 4 (some .boolean) 1 0 0 As h Z
abbrev Q_X10_figures (l : Launch) (Z : Option Value ⊕ String → HP → Prop) (pc : Nat) (lf : Nat → Option Value) (st : List Value) (h : HP) : Prop := Q l RX10 cX10_figures 4 1 0 0 (GM (some .boolean) 0 0 Z) pc lf st h 0 0
abbrev V_X10_hasTwo (l : Launch) (As : List Value) (h : HP) (Z : Option Value ⊕ String → HP → Prop) : Prop := VM l yX10_hasTwo cX10_hasTwo 1 (some .boolean) 2 0 0 As h Z
abbrev Q_X10_hasTwo (l : Launch) (Z : Option Value ⊕ String → HP → Prop) (pc : Nat) (lf : Nat → Option Value) (st : List Value) (h : HP) : Prop := Q l RX10 cX10_hasTwo 1 2 0 0 (GM (some .boolean) 0 0 Z) pc lf st h 0 0
abbrev V_X10_commandHere (l : Launch) (As : List Value) (h : HP) (Z : Option Value ⊕ String → HP → Prop) : Prop := VM l yX10_commandHere cX10_commandHere 2 (some .boolean) 3 0 0 As h Z
abbrev Q_X10_commandHere (l : Launch) (Z : Option Value ⊕ String → HP → Prop) (pc : Nat) (lf : Nat → Option Value) (st : List Value) (h : HP) : Prop := Q l RX10 cX10_commandHere 2 3 0 0 (GM (some .boolean) 0 0 Z) pc lf st h 0 0
abbrev V_X10_isText (l : Launch) (As : List Value) (h : HP) (Z : Option Value ⊕ String → HP → Prop) : Prop := VM l yX10_isText cX10_isText 1 (some .boolean) 4 0 0 As h Z
abbrev Q_X10_isText (l : Launch) (Z : Option Value ⊕ String → HP → Prop) (pc : Nat) (lf : Nat → Option Value) (st : List Value) (h : HP) : Prop := Q l RX10 cX10_isText 1 4 0 0 (GM (some .boolean) 0 0 Z) pc lf st h 0 0
abbrev V_X10_carries (l : Launch) (As : List Value) (h : HP) (Z : Option Value ⊕ String → HP → Prop) : Prop := VM l yX10_carries cX10_carries 3 (some .int) 7 0 0 As h Z
abbrev Q_X10_carries (l : Launch) (Z : Option Value ⊕ String → HP → Prop) (pc : Nat) (lf : Nat → Option Value) (st : List Value) (h : HP) : Prop := Q l RX10 cX10_carries 3 7 0 0 (GM (some .int) 0 0 Z) pc lf st h 0 0
abbrev V_X10_commands (l : Launch) (As : List Value) (h : HP) (Z : Option Value ⊕ String → HP → Prop) : Prop := VM l yX10_commands cX10_commands 3 (some .int) 8 0 0 As h Z
abbrev Q_X10_commands (l : Launch) (Z : Option Value ⊕ String → HP → Prop) (pc : Nat) (lf : Nat → Option Value) (st : List Value) (h : HP) : Prop := Q l RX10 cX10_commands 3 8 0 0 (GM (some .int) 0 0 Z) pc lf st h 0 0
abbrev V_X10_faultPosition (l : Launch) (As : List Value) (h : HP) (Z : Option Value ⊕ String → HP → Prop) : Prop := VM l yX10_faultPosition cX10_faultPosition 1 (some .int) 0 0 0 As h Z
abbrev Q_X10_faultPosition (l : Launch) (Z : Option Value ⊕ String → HP → Prop) (pc : Nat) (lf : Nat → Option Value) (st : List Value) (h : HP) : Prop := Q l RX10 cX10_faultPosition 1 0 0 0 (GM (some .int) 0 0 Z) pc lf st h 0 0
abbrev V_X10_reason (l : Launch) (As : List Value) (h : HP) (Z : Option Value ⊕ String → HP → Prop) : Prop := VM l yX10_reason cX10_reason 2 (some .int) 1 0 0 As h Z
abbrev Q_X10_reason (l : Launch) (Z : Option Value ⊕ String → HP → Prop) (pc : Nat) (lf : Nat → Option Value) (st : List Value) (h : HP) : Prop := Q l RX10 cX10_reason 2 1 0 0 (GM (some .int) 0 0 Z) pc lf st h 0 0
abbrev V_X10_writes (l : Launch) (As : List Value) (h : HP) (Z : Option Value ⊕ String → HP → Prop) : Prop := VM l yX10_writes cX10_writes 2 none 0 0 0 As h Z
abbrev Q_X10_writes (l : Launch) (Z : Option Value ⊕ String → HP → Prop) (pc : Nat) (lf : Nat → Option Value) (st : List Value) (h : HP) : Prop := Q l RX10 cX10_writes 2 0 0 0 (GM none 0 0 Z) pc lf st h 0 0
abbrev V_X10_writesNumber (l : Launch) (As : List Value) (h : HP) (Z : Option Value ⊕ String → HP → Prop) : Prop := VM l yX10_writesNumber cX10_writesNumber 2 none 1 0 0 As h Z
abbrev Q_X10_writesNumber (l : Launch) (Z : Option Value ⊕ String → HP → Prop) (pc : Nat) (lf : Nat → Option Value) (st : List Value) (h : HP) : Prop := Q l RX10 cX10_writesNumber 2 1 0 0 (GM none 0 0 Z) pc lf st h 0 0
abbrev V_X10_rack (l : Launch) (As : List Value) (h : HP) (Z : Option Value ⊕ String → HP → Prop) : Prop := VM l yX10_rack cX10_rack 4 (some .int) 3 0 0 As h Z
abbrev Q_X10_rack (l : Launch) (Z : Option Value ⊕ String → HP → Prop) (pc : Nat) (lf : Nat → Option Value) (st : List Value) (h : HP) : Prop := Q l RX10 cX10_rack 4 3 0 0 (GM (some .int) 0 0 Z) pc lf st h 0 0
abbrev V_X10_line (l : Launch) (As : List Value) (h : HP) (Z : Option Value ⊕ String → HP → Prop) : Prop := VM l yX10_line cX10_line 3 (some .int) 2 0 0 As h Z
abbrev Q_X10_line (l : Launch) (Z : Option Value ⊕ String → HP → Prop) (pc : Nat) (lf : Nat → Option Value) (st : List Value) (h : HP) : Prop := Q l RX10 cX10_line 3 2 0 0 (GM (some .int) 0 0 Z) pc lf st h 0 0
abbrev V_X10_character (l : Launch) (As : List Value) (h : HP) (Z : Option Value ⊕ String → HP → Prop) : Prop := VM l yX10_character cX10_character 2 (some .char) 1 0 0 As h Z
abbrev Q_X10_character (l : Launch) (Z : Option Value ⊕ String → HP → Prop) (pc : Nat) (lf : Nat → Option Value) (st : List Value) (h : HP) : Prop := Q l RX10 cX10_character 2 1 0 0 (GM (some .char) 0 0 Z) pc lf st h 0 0
abbrev V_X10_meanSmoke (l : Launch) (As : List Value) (h : HP) (Z : Option Value ⊕ String → HP → Prop) : Prop := VM l yX10_meanSmoke cX10_meanSmoke 3 (some .int) 4 0 0 As h Z
abbrev Q_X10_meanSmoke (l : Launch) (Z : Option Value ⊕ String → HP → Prop) (pc : Nat) (lf : Nat → Option Value) (st : List Value) (h : HP) : Prop := Q l RX10 cX10_meanSmoke 3 4 0 0 (GM (some .int) 0 0 Z) pc lf st h 0 0
abbrev V_X10_burntShare (l : Launch) (As : List Value) (h : HP) (Z : Option Value ⊕ String → HP → Prop) : Prop := VM l yX10_burntShare cX10_burntShare 1 (some .double) 3 0 0 As h Z
abbrev Q_X10_burntShare (l : Launch) (Z : Option Value ⊕ String → HP → Prop) (pc : Nat) (lf : Nat → Option Value) (st : List Value) (h : HP) : Prop := Q l RX10 cX10_burntShare 1 3 0 0 (GM (some .double) 0 0 Z) pc lf st h 0 0
abbrev V_X10_account (l : Launch) (As : List Value) (h : HP) (Z : Option Value ⊕ String → HP → Prop) : Prop := VM l yX10_account cX10_account 2 (some .int) 2 0 0 As h Z
abbrev Q_X10_account (l : Launch) (Z : Option Value ⊕ String → HP → Prop) (pc : Nat) (lf : Nat → Option Value) (st : List Value) (h : HP) : Prop := Q l RX10 cX10_account 2 2 0 0 (GM (some .int) 0 0 Z) pc lf st h 0 0
abbrev V_X10_undo (l : Launch) (As : List Value) (h : HP) (Z : Option Value ⊕ String → HP → Prop) : Prop := VM l yX10_undo cX10_undo 1 (some .int) 1 0 0 As h Z
abbrev Q_X10_undo (l : Launch) (Z : Option Value ⊕ String → HP → Prop) (pc : Nat) (lf : Nat → Option Value) (st : List Value) (h : HP) : Prop := Q l RX10 cX10_undo 1 1 0 0 (GM (some .int) 0 0 Z) pc lf st h 0 0
abbrev V_X10_save (l : Launch) (As : List Value) (h : HP) (Z : Option Value ⊕ String → HP → Prop) : Prop := VM l yX10_save cX10_save 1 (some .int) 1 0 0 As h Z
abbrev Q_X10_save (l : Launch) (Z : Option Value ⊕ String → HP → Prop) (pc : Nat) (lf : Nat → Option Value) (st : List Value) (h : HP) : Prop := Q l RX10 cX10_save 1 1 0 0 (GM (some .int) 0 0 Z) pc lf st h 0 0
abbrev V_X10_restore (l : Launch) (As : List Value) (h : HP) (Z : Option Value ⊕ String → HP → Prop) : Prop := VM l yX10_restore cX10_restore 1 (some .int) 1 0 0 As h Z
abbrev Q_X10_restore (l : Launch) (Z : Option Value ⊕ String → HP → Prop) (pc : Nat) (lf : Nat → Option Value) (st : List Value) (h : HP) : Prop := Q l RX10 cX10_restore 1 1 0 0 (GM (some .int) 0 0 Z) pc lf st h 0 0
def inB (x lo hi : Int32) : Bool := !decide (x < lo) && !decide (hi < x)
def mn2 (x y : Int32) : Int32 := if x < y then x else y
def gp (x y : Int32) : Int32 := if x < y then y - x else x - y
theorem nI_row (k w : Nat) : 8 + 11 * nI k + nI w = nI (8 + 11 * k + w) := by
  rw [← nI_add2, ← nI_add2]
  congr 2
  show Int32.ofInt 11 * Int32.ofInt (k : Int) = Int32.ofInt ((11 * k : Nat) : Int)
  rw [← Int32.ofInt_mul]
  rfl
abbrev hg9 : Nat := 465
/-- the row's number w of the fish k -/
abbrev oF (M : MM) (k w : Nat) : Int32 := M 465 (8 + 11 * k + w)
def rHang (M : MM) (k : Nat) : Bool := oF M k 2 == 2
def rBurnt (M : MM) (k : Nat) : Bool := oF M k 9 == 9 || oF M k 10 == 9
def rLack (M : MM) (k : Nat) : Int32 := itN (fun i s => s + (if oF M k (7 + i) < 5 + oF M k 0 then 5 + oF M k 0 - oF M k (7 + i) else 0)) 0 2
def rReady (M : MM) (k : Nat) : Bool := !rBurnt M k && rLack M k == 0
def rPrice (M : MM) (k : Nat) : Int32 := 3 * oF M k 0 + (if 6 < oF M k 1 then 0 else oF M k 1)
def rMea (M : MM) (k : Nat) (q : Int32) : Int32 := if q = 0 then oF M k 0 else if q = 1 then oF M k 1 else if q = 2 then oF M k 7 + oF M k 8 else if q = 3 then (if oF M k 10 < oF M k 9 then oF M k 9 else oF M k 10) else rPrice M k
def rHeat (M : MM) (p : Int32) : Int32 := if p < M 465 1 then M 465 1 - p else 0
section P23
variable {M : MM} {r : MR}
theorem s_X10_in {l : Launch} (hf : l.stackTraces = false) {x lo hi : Int32} : V_X10_in l [.int x, .int lo, .int hi] (hp M r) (VI (zb (inB x lo hi)) (hp M r)) := by
  refine VM.intro (lf := L9 (some (.int x)) (some (.int lo)) (some (.int hi)) none none none none none none) (by decide +kernel) hf (fun _ => (Nat.le_of_ble_eq_true rfl)) (fun _ => rfl) ?_
  refine R_iload_n dX10_in_0 rfl rfl ?_
  refine R_iload_n dX10_in_1 rfl rfl ?_
  refine R_icmp_lt (tgt := 14) dX10_in_2 rfl (fun c1 => ?_) (fun c1 => ?_)
  · refine R_iconst (v := 0) dX10_in_14 (by decide) ?_
    refine R_iret dX10_in_15 (by first | rfl | decide) (Nat.le_of_ble_eq_true rfl) (Nat.le_of_ble_eq_true rfl) ?_
    refine ⟨?_, rfl⟩
    simp_all [-Int32.not_lt, -Int32.not_le, zb, inB]
  · refine R_iload_n dX10_in_5 rfl rfl ?_
    refine R_iload_n dX10_in_6 rfl rfl ?_
    refine R_icmp_gt (tgt := 14) dX10_in_7 rfl (fun c2 => ?_) (fun c2 => ?_)
    · refine R_iconst (v := 0) dX10_in_14 (by decide) ?_
      refine R_iret dX10_in_15 (by first | rfl | decide) (Nat.le_of_ble_eq_true rfl) (Nat.le_of_ble_eq_true rfl) ?_
      refine ⟨?_, rfl⟩
      simp_all [-Int32.not_lt, -Int32.not_le, zb, inB]
    · refine R_iconst (v := 1) dX10_in_10 (by decide) ?_
      refine R_goto (tgt := 15) dX10_in_11 rfl ?_
      refine R_iret dX10_in_15 (by first | rfl | decide) (Nat.le_of_ble_eq_true rfl) (Nat.le_of_ble_eq_true rfl) ?_
      refine ⟨?_, rfl⟩
      simp_all [-Int32.not_lt, -Int32.not_le, zb, inB]
theorem s_X10_atMost {l : Launch} (hf : l.stackTraces = false) {x y : Int32} : V_X10_atMost l [.int x, .int y] (hp M r) (VI (mn2 x y) (hp M r)) := by
  refine VM.intro (lf := L9 (some (.int x)) (some (.int y)) none none none none none none none) (by decide +kernel) hf (fun _ => (Nat.le_of_ble_eq_true rfl)) (fun _ => rfl) ?_
  refine R_iload_n dX10_atMost_0 rfl rfl ?_
  refine R_iload_n dX10_atMost_1 rfl rfl ?_
  refine R_icmp_geN (tgt := 9) dX10_atMost_2 rfl (fun c1 => ?_) (fun c1 => ?_)
  · refine R_iload_n dX10_atMost_9 rfl rfl ?_
    refine R_iret dX10_atMost_10 rfl (Nat.le_of_ble_eq_true rfl) (Nat.le_of_ble_eq_true rfl) ?_
    refine ⟨?_, rfl⟩
    simp_all [-Int32.not_lt, -Int32.not_le, zb, mn2]
  · refine R_iload_n dX10_atMost_5 rfl rfl ?_
    refine R_goto (tgt := 10) dX10_atMost_6 rfl ?_
    refine R_iret dX10_atMost_10 rfl (Nat.le_of_ble_eq_true rfl) (Nat.le_of_ble_eq_true rfl) ?_
    refine ⟨?_, rfl⟩
    simp_all [-Int32.not_lt, -Int32.not_le, zb, mn2]
theorem s_X10_gap {l : Launch} (hf : l.stackTraces = false) {x y : Int32} : V_X10_gap l [.int x, .int y] (hp M r) (VI (gp x y) (hp M r)) := by
  refine VM.intro (lf := L9 (some (.int x)) (some (.int y)) none none none none none none none) (by decide +kernel) hf (fun _ => (Nat.le_of_ble_eq_true rfl)) (fun _ => rfl) ?_
  refine R_iload_n dX10_gap_0 rfl rfl ?_
  refine R_iload_n dX10_gap_1 rfl rfl ?_
  refine R_icmp_geN (tgt := 11) dX10_gap_2 rfl (fun c1 => ?_) (fun c1 => ?_)
  · refine R_iload_n dX10_gap_11 rfl rfl ?_
    refine R_iload_n dX10_gap_12 rfl rfl ?_
    refine R_isub dX10_gap_13 ?_
    refine R_iret dX10_gap_14 rfl (Nat.le_of_ble_eq_true rfl) (Nat.le_of_ble_eq_true rfl) ?_
    refine ⟨?_, rfl⟩
    simp_all [-Int32.not_lt, -Int32.not_le, zb, gp]
  · refine R_iload_n dX10_gap_5 rfl rfl ?_
    refine R_iload_n dX10_gap_6 rfl rfl ?_
    refine R_isub dX10_gap_7 ?_
    refine R_goto (tgt := 14) dX10_gap_8 rfl ?_
    refine R_iret dX10_gap_14 rfl (Nat.le_of_ble_eq_true rfl) (Nat.le_of_ble_eq_true rfl) ?_
    refine ⟨?_, rfl⟩
    simp_all [-Int32.not_lt, -Int32.not_le, zb, gp]
theorem s_X10_fails {l : Launch} (hf : l.stackTraces = false) {c : Int32} : V_X10_fails l [.ref 464, .int c] (hp M r) (VI (zb (decide (0 < c))) (hp (mst M 464 9 c) r)) := by
  refine VM.intro (lf := L9 (some (.ref 464)) (some (.int c)) none none none none none none none) (by decide +kernel) hf (fun _ => (Nat.le_of_ble_eq_true rfl)) (fun _ => rfl) ?_
  refine R_aload_n dX10_fails_0 rfl rfl ?_
  refine R_iload_n dX10_fails_1 rfl rfl ?_
  refine G_put cok10 9 wf_X10_39 dX10_fails_2 (by first | exact rfl | assumption) rfl ⟨(Nat.le_of_ble_eq_true rfl), rfl, (Nat.le_of_ble_eq_true rfl)⟩ ⟨rfl, rfl⟩ ?_
  refine R_iload_n dX10_fails_5 rfl rfl ?_
  refine R_if_leN (tgt := 13) dX10_fails_6 rfl (fun c1 => ?_) (fun c1 => ?_)
  · refine R_iconst (v := 0) dX10_fails_13 (by decide) ?_
    refine R_iret dX10_fails_14 (by first | rfl | decide) (Nat.le_of_ble_eq_true rfl) (Nat.le_of_ble_eq_true rfl) ?_
    refine ⟨?_, rfl⟩
    simp_all [-Int32.not_lt, -Int32.not_le, zb]
  · refine R_iconst (v := 1) dX10_fails_9 (by decide) ?_
    refine R_goto (tgt := 14) dX10_fails_10 rfl ?_
    refine R_iret dX10_fails_14 (by first | rfl | decide) (Nat.le_of_ble_eq_true rfl) (Nat.le_of_ble_eq_true rfl) ?_
    refine ⟨?_, rfl⟩
    simp_all [-Int32.not_lt, -Int32.not_le, zb]
theorem s_X10_refuses {l : Launch} (hf : l.stackTraces = false) {x y : Int32} : V_X10_refuses l [.ref 464, .int x, .int y] (hp M r) (VI 0 (hp (mst (mst (mst (mst M 464 9 1) 464 10 x) 464 11 y) 464 12 (if M 464 7 = 0 then 0 else M 464 8)) r)) := by
  refine VM.intro (lf := L9 (some (.ref 464)) (some (.int x)) (some (.int y)) none none none none none none) (by decide +kernel) hf (fun _ => (Nat.le_of_ble_eq_true rfl)) (fun _ => rfl) ?_
  refine R_aload_n dX10_refuses_0 rfl rfl ?_
  refine R_iconst (v := 1) dX10_refuses_1 (by decide) ?_
  refine G_put cok10 9 wf_X10_39 dX10_refuses_2 (by first | exact rfl | assumption) rfl ⟨(Nat.le_of_ble_eq_true rfl), rfl, (Nat.le_of_ble_eq_true rfl)⟩ ⟨rfl, rfl⟩ ?_
  refine R_aload_n dX10_refuses_5 rfl rfl ?_
  refine R_iload_n dX10_refuses_6 rfl rfl ?_
  refine G_put cok10 10 wf_X10_42 dX10_refuses_7 (by first | exact rfl | assumption) rfl ⟨(Nat.le_of_ble_eq_true rfl), rfl, (Nat.le_of_ble_eq_true rfl)⟩ ⟨rfl, rfl⟩ ?_
  refine R_aload_n dX10_refuses_10 rfl rfl ?_
  refine R_iload_n dX10_refuses_11 rfl rfl ?_
  refine G_put cok10 11 wf_X10_45 dX10_refuses_12 (by first | exact rfl | assumption) rfl ⟨(Nat.le_of_ble_eq_true rfl), rfl, (Nat.le_of_ble_eq_true rfl)⟩ ⟨rfl, rfl⟩ ?_
  refine R_aload_n dX10_refuses_15 rfl rfl ?_
  refine R_aload_n dX10_refuses_16 rfl rfl ?_
  refine G_get cok10 7 wf_X10_48 dX10_refuses_17 (by first | exact rfl | assumption) ⟨(Nat.le_of_ble_eq_true rfl), (Nat.le_of_ble_eq_true rfl)⟩ rfl ?_
  refine R_if_eq (tgt := 30) dX10_refuses_20 rfl (fun c1 => ?_) (fun c1 => ?_)
  · refine R_iconst (v := 0) dX10_refuses_30 (by decide) ?_
    refine G_put cok10 12 wf_X10_55 dX10_refuses_31 (by first | exact rfl | assumption) rfl ⟨(Nat.le_of_ble_eq_true rfl), rfl, (Nat.le_of_ble_eq_true rfl)⟩ ⟨rfl, rfl⟩ ?_
    refine R_iconst (v := 0) dX10_refuses_34 (by decide) ?_
    refine R_iret dX10_refuses_35 rfl (Nat.le_of_ble_eq_true rfl) (Nat.le_of_ble_eq_true rfl) ?_
    refine ⟨rfl, congrArg (fun z => hp z r) ?_⟩
    first | rw [if_pos (by simpa [mst] using c1)] | (rw [if_neg (by simpa [mst] using c1)]; simp [mst])
  · refine R_aload_n dX10_refuses_23 rfl rfl ?_
    refine G_get cok10 8 wf_X10_52 dX10_refuses_24 (by first | exact rfl | assumption) ⟨(Nat.le_of_ble_eq_true rfl), (Nat.le_of_ble_eq_true rfl)⟩ rfl ?_
    refine R_goto (tgt := 31) dX10_refuses_27 rfl ?_
    refine G_put cok10 12 wf_X10_55 dX10_refuses_31 (by first | exact rfl | assumption) rfl ⟨(Nat.le_of_ble_eq_true rfl), rfl, (Nat.le_of_ble_eq_true rfl)⟩ ⟨rfl, rfl⟩ ?_
    refine R_iconst (v := 0) dX10_refuses_34 (by decide) ?_
    refine R_iret dX10_refuses_35 rfl (Nat.le_of_ble_eq_true rfl) (Nat.le_of_ble_eq_true rfl) ?_
    refine ⟨rfl, congrArg (fun z => hp z r) ?_⟩
    first | rw [if_pos (by simpa [mst] using c1)] | (rw [if_neg (by simpa [mst] using c1)]; simp [mst])
theorem s_X10_thrown {l : Launch} (hf : l.stackTraces = false)  : V_X10_thrown l [.ref 464] (hp M r) (VI (M 464 9) (hp M r)) := by
  refine VM.intro (lf := L9 (some (.ref 464)) none none none none none none none none) (by decide +kernel) hf (fun _ => (Nat.le_of_ble_eq_true rfl)) (fun _ => rfl) ?_
  refine R_aload_n dX10_thrown_0 rfl rfl ?_
  refine G_get cok10 9 wf_X10_39 dX10_thrown_1 (by first | exact rfl | assumption) ⟨(Nat.le_of_ble_eq_true rfl), (Nat.le_of_ble_eq_true rfl)⟩ rfl ?_
  refine R_iret dX10_thrown_4 rfl (Nat.le_of_ble_eq_true rfl) (Nat.le_of_ble_eq_true rfl) ?_
  exact ⟨rfl, rfl⟩
theorem s_X10_of {l : Launch} (hf : l.stackTraces = false) {k : Nat} (hk : k < 12) {w : Nat} (hw : w < 11) {v : Int32} (hv : v = nI w) : V_X10_of l [.ref 464, .int (nI k), .int v] (hp M r) (VI (oF M k w) (hp M r)) := by
  refine VM.intro (lf := L9 (some (.ref 464)) (some (.int (nI k))) (some (.int v)) none none none none none none) (by decide +kernel) hf (fun _ => (Nat.le_of_ble_eq_true rfl)) (fun _ => rfl) ?_
  refine R_aload_n dX10_of_0 rfl rfl ?_
  refine G_get cok10 0 wf_X10_7 dX10_of_1 (by first | exact rfl | assumption) ⟨(Nat.le_of_ble_eq_true rfl), (Nat.le_of_ble_eq_true rfl)⟩ rfl ?_
  refine R_bipush (v := 8) dX10_of_4 (by decide) ?_
  refine R_bipush (v := 11) dX10_of_6 (by decide) ?_
  refine R_iload_n dX10_of_8 rfl rfl ?_
  refine R_imul dX10_of_9 ?_
  refine R_iadd dX10_of_10 ?_
  refine R_iload_n dX10_of_11 rfl rfl ?_
  refine R_iadd dX10_of_12 ?_
  rw [show (8 : Int32) + 11 * nI k + v = nI (8 + 11 * k + w) from by rw [hv]; exact nI_row k w]
  refine G_iald dX10_of_13 (by first | exact rfl | assumption) (nI_in12 (n := 140) (by omega) (by omega)) ?_
  refine R_iret dX10_of_14 rfl (Nat.le_of_ble_eq_true rfl) (Nat.le_of_ble_eq_true rfl) ?_
  rw [nI_cl (by omega)]
  exact ⟨rfl, rfl⟩
theorem s_X10_lays {l : Launch} (hf : l.stackTraces = false) {k : Nat} (hk : k < 12) {w : Nat} (hw : w < 11) {v x : Int32} (hv : v = nI w) : V_X10_lays l [.ref 464, .int (nI k), .int v, .int x] (hp M r) (VR none (hp (mst M 465 (8 + 11 * k + w) x) r)) := by
  refine VM.intro (lf := L9 (some (.ref 464)) (some (.int (nI k))) (some (.int v)) (some (.int x)) none none none none none) (by decide +kernel) hf (fun _ => (Nat.le_of_ble_eq_true rfl)) (fun _ => rfl) ?_
  refine R_aload_n dX10_lays_0 rfl rfl ?_
  refine G_get cok10 0 wf_X10_7 dX10_lays_1 (by first | exact rfl | assumption) ⟨(Nat.le_of_ble_eq_true rfl), (Nat.le_of_ble_eq_true rfl)⟩ rfl ?_
  refine R_bipush (v := 8) dX10_lays_4 (by decide) ?_
  refine R_bipush (v := 11) dX10_lays_6 (by decide) ?_
  refine R_iload_n dX10_lays_8 rfl rfl ?_
  refine R_imul dX10_lays_9 ?_
  refine R_iadd dX10_lays_10 ?_
  refine R_iload_n dX10_lays_11 rfl rfl ?_
  refine R_iadd dX10_lays_12 ?_
  rw [show (8 : Int32) + 11 * nI k + v = nI (8 + 11 * k + w) from by rw [hv]; exact nI_row k w]
  refine R_iload_n dX10_lays_13 rfl rfl ?_
  refine G_iast dX10_lays_14 (by first | exact rfl | assumption) (nI_in12 (n := 140) (by omega) (by omega)) ?_
  refine R_vret dX10_lays_15 (Nat.le_of_ble_eq_true rfl) (Nat.le_of_ble_eq_true rfl) ?_
  rw [nI_cl (by omega)]
  exact ⟨rfl, rfl⟩
theorem s_X10_isFish {l : Launch} (hf : l.stackTraces = false) {n : Nat} (hn : n ≤ 12) (hg : M 465 0 = nI n) {x : Int32} : V_X10_isFish l [.ref 464, .int x] (hp M r) (VI (zb (inB x 0 (nI n - 1))) (hp M r)) := by
  refine VM.intro (lf := L9 (some (.ref 464)) (some (.int x)) none none none none none none none) (by decide +kernel) hf (fun _ => (Nat.le_of_ble_eq_true rfl)) (fun _ => rfl) ?_
  refine R_iload_n dX10_isFish_0 rfl rfl ?_
  refine R_iconst (v := 0) dX10_isFish_1 (by decide) ?_
  refine R_aload_n dX10_isFish_2 rfl rfl ?_
  refine G_get cok10 0 wf_X10_7 dX10_isFish_3 (by first | exact rfl | assumption) ⟨(Nat.le_of_ble_eq_true rfl), (Nat.le_of_ble_eq_true rfl)⟩ rfl ?_
  refine R_iconst (v := 0) dX10_isFish_6 (by decide) ?_
  refine G_iald dX10_isFish_7 (by first | exact rfl | assumption) (show vp_in (nI 0) 140 from nI_in12 (by omega) (by omega)) ?_
  refine R_topE (show M 465 _ = nI n from hg) ?_
  refine R_iconst (v := 1) dX10_isFish_8 (by decide) ?_
  refine R_isub dX10_isFish_9 ?_
  refine G_cS3 cw_X10_65 (s_X10_in hf) dX10_isFish_10 ⟨(Nat.le_of_ble_eq_true rfl), (Nat.le_of_ble_eq_true rfl), (Nat.le_of_ble_eq_true rfl), (Nat.le_of_ble_eq_true rfl)⟩ ?_
  refine R_iret dX10_isFish_13 (zb_nar _) (Nat.le_of_ble_eq_true rfl) (Nat.le_of_ble_eq_true rfl) ?_
  exact ⟨rfl, rfl⟩
theorem s_X10_isHook {l : Launch} (hf : l.stackTraces = false) {p q : Int32} : V_X10_isHook l [.int p, .int q] (hp M r) (VI (zb (inB p 0 3 && inB q 0 9)) (hp M r)) := by
  refine VM.intro (lf := L9 (some (.int p)) (some (.int q)) none none none none none none none) (by decide +kernel) hf (fun _ => (Nat.le_of_ble_eq_true rfl)) (fun _ => rfl) ?_
  refine R_iload_n dX10_isHook_0 rfl rfl ?_
  refine R_iconst (v := 0) dX10_isHook_1 (by decide) ?_
  refine R_iconst (v := 3) dX10_isHook_2 (by decide) ?_
  refine G_cS3 cw_X10_65 (s_X10_in hf) dX10_isHook_3 ⟨(Nat.le_of_ble_eq_true rfl), (Nat.le_of_ble_eq_true rfl), (Nat.le_of_ble_eq_true rfl), (Nat.le_of_ble_eq_true rfl)⟩ ?_
  refine R_if_eq (tgt := 23) dX10_isHook_6 rfl (fun c1 => ?_) (fun c1 => ?_)
  · refine R_iconst (v := 0) dX10_isHook_23 (by decide) ?_
    refine R_iret dX10_isHook_24 (by first | rfl | decide) (Nat.le_of_ble_eq_true rfl) (Nat.le_of_ble_eq_true rfl) ?_
    refine ⟨?_, rfl⟩
    simp_all [-Int32.not_lt, zb_0, zb_n0]
    try rfl
  · refine R_iload_n dX10_isHook_9 rfl rfl ?_
    refine R_iconst (v := 0) dX10_isHook_10 (by decide) ?_
    refine R_bipush (v := 9) dX10_isHook_11 (by decide) ?_
    refine G_cS3 cw_X10_65 (s_X10_in hf) dX10_isHook_13 ⟨(Nat.le_of_ble_eq_true rfl), (Nat.le_of_ble_eq_true rfl), (Nat.le_of_ble_eq_true rfl), (Nat.le_of_ble_eq_true rfl)⟩ ?_
    refine R_if_eq (tgt := 23) dX10_isHook_16 rfl (fun c2 => ?_) (fun c2 => ?_)
    · refine R_iconst (v := 0) dX10_isHook_23 (by decide) ?_
      refine R_iret dX10_isHook_24 (by first | rfl | decide) (Nat.le_of_ble_eq_true rfl) (Nat.le_of_ble_eq_true rfl) ?_
      refine ⟨?_, rfl⟩
      simp_all [-Int32.not_lt, zb_0, zb_n0]
      try rfl
    · refine R_iconst (v := 1) dX10_isHook_19 (by decide) ?_
      refine R_goto (tgt := 24) dX10_isHook_20 rfl ?_
      refine R_iret dX10_isHook_24 (by first | rfl | decide) (Nat.le_of_ble_eq_true rfl) (Nat.le_of_ble_eq_true rfl) ?_
      refine ⟨?_, rfl⟩
      simp_all [-Int32.not_lt, zb_0, zb_n0]
      try rfl
theorem s_X10_hangs {l : Launch} (hf : l.stackTraces = false) {k : Nat} (hk : k < 12) : V_X10_hangs l [.ref 464, .int (nI k)] (hp M r) (VI (zb (rHang M k)) (hp M r)) := by
  refine VM.intro (lf := L9 (some (.ref 464)) (some (.int (nI k))) none none none none none none none) (by decide +kernel) hf (fun _ => (Nat.le_of_ble_eq_true rfl)) (fun _ => rfl) ?_
  refine R_aload_n dX10_hangs_0 rfl rfl ?_
  refine R_iload_n dX10_hangs_1 rfl rfl ?_
  refine R_iconst (v := 2) dX10_hangs_2 (by decide) ?_
  refine G_cV2 cw_X10_69 (s_X10_of hf (k := k) (w := 2) (by omega) (by decide) (by decide)) dX10_hangs_3 (rcv cok10 (by first | exact rfl | assumption) (Nat.le_of_ble_eq_true rfl)) ⟨(Nat.le_of_ble_eq_true rfl), (Nat.le_of_ble_eq_true rfl), (Nat.le_of_ble_eq_true rfl), (Nat.le_of_ble_eq_true rfl)⟩ ?_
  refine R_iconst (v := 2) dX10_hangs_6 (by decide) ?_
  refine R_icmp_ne (tgt := 14) dX10_hangs_7 rfl (fun c1 => ?_) (fun c1 => ?_)
  · refine R_iconst (v := 0) dX10_hangs_14 (by decide) ?_
    refine R_iret dX10_hangs_15 rfl (Nat.le_of_ble_eq_true rfl) (Nat.le_of_ble_eq_true rfl) ?_
    refine ⟨?_, rfl⟩
    simp_all [-Int32.not_lt, -Int32.not_le, zb, rHang]
  · refine R_iconst (v := 1) dX10_hangs_10 (by decide) ?_
    refine R_goto (tgt := 15) dX10_hangs_11 rfl ?_
    refine R_iret dX10_hangs_15 rfl (Nat.le_of_ble_eq_true rfl) (Nat.le_of_ble_eq_true rfl) ?_
    refine ⟨?_, rfl⟩
    simp_all [-Int32.not_lt, -Int32.not_le, zb, rHang]
theorem s_X10_needs {l : Launch} (hf : l.stackTraces = false) {k : Nat} (hk : k < 12) : V_X10_needs l [.ref 464, .int (nI k)] (hp M r) (VI (1 + oF M k 0 / 3) (hp M r)) := by
  refine VM.intro (lf := L9 (some (.ref 464)) (some (.int (nI k))) none none none none none none none) (by decide +kernel) hf (fun _ => (Nat.le_of_ble_eq_true rfl)) (fun _ => rfl) ?_
  refine R_iconst (v := 1) dX10_needs_0 (by decide) ?_
  refine R_aload_n dX10_needs_1 rfl rfl ?_
  refine R_iload_n dX10_needs_2 rfl rfl ?_
  refine R_iconst (v := 0) dX10_needs_3 (by decide) ?_
  refine G_cV2 cw_X10_69 (s_X10_of hf (k := k) (w := 0) (by omega) (by decide) (by decide)) dX10_needs_4 (rcv cok10 (by first | exact rfl | assumption) (Nat.le_of_ble_eq_true rfl)) ⟨(Nat.le_of_ble_eq_true rfl), (Nat.le_of_ble_eq_true rfl), (Nat.le_of_ble_eq_true rfl), (Nat.le_of_ble_eq_true rfl)⟩ ?_
  refine R_iconst (v := 3) dX10_needs_7 (by decide) ?_
  refine R_idiv dX10_needs_8 (by decide) ?_
  refine R_iadd dX10_needs_9 ?_
  refine R_iret dX10_needs_10 rfl (Nat.le_of_ble_eq_true rfl) (Nat.le_of_ble_eq_true rfl) ?_
  exact ⟨rfl, rfl⟩
theorem s_X10_bears {l : Launch} (hf : l.stackTraces = false) {k : Nat} (hk : k < 12) : V_X10_bears l [.ref 464, .int (nI k)] (hp M r) (VI (2 + oF M k 1 / 3) (hp M r)) := by
  refine VM.intro (lf := L9 (some (.ref 464)) (some (.int (nI k))) none none none none none none none) (by decide +kernel) hf (fun _ => (Nat.le_of_ble_eq_true rfl)) (fun _ => rfl) ?_
  refine R_iconst (v := 2) dX10_bears_0 (by decide) ?_
  refine R_aload_n dX10_bears_1 rfl rfl ?_
  refine R_iload_n dX10_bears_2 rfl rfl ?_
  refine R_iconst (v := 1) dX10_bears_3 (by decide) ?_
  refine G_cV2 cw_X10_69 (s_X10_of hf (k := k) (w := 1) (by omega) (by decide) (by decide)) dX10_bears_4 (rcv cok10 (by first | exact rfl | assumption) (Nat.le_of_ble_eq_true rfl)) ⟨(Nat.le_of_ble_eq_true rfl), (Nat.le_of_ble_eq_true rfl), (Nat.le_of_ble_eq_true rfl), (Nat.le_of_ble_eq_true rfl)⟩ ?_
  refine R_iconst (v := 3) dX10_bears_7 (by decide) ?_
  refine R_idiv dX10_bears_8 (by decide) ?_
  refine R_iadd dX10_bears_9 ?_
  refine R_iret dX10_bears_10 rfl (Nat.le_of_ble_eq_true rfl) (Nat.le_of_ble_eq_true rfl) ?_
  exact ⟨rfl, rfl⟩
theorem s_X10_isBurnt {l : Launch} (hf : l.stackTraces = false) {k : Nat} (hk : k < 12) : V_X10_isBurnt l [.ref 464, .int (nI k)] (hp M r) (VI (zb (rBurnt M k)) (hp M r)) := by
  refine VM.intro (lf := L9 (some (.ref 464)) (some (.int (nI k))) none none none none none none none) (by decide +kernel) hf (fun _ => (Nat.le_of_ble_eq_true rfl)) (fun _ => rfl) ?_
  refine R_aload_n dX10_isBurnt_0 rfl rfl ?_
  refine R_iload_n dX10_isBurnt_1 rfl rfl ?_
  refine R_bipush (v := 9) dX10_isBurnt_2 (by decide) ?_
  refine G_cV2 cw_X10_69 (s_X10_of hf (k := k) (w := 9) (by omega) (by decide) (by decide)) dX10_isBurnt_4 (rcv cok10 (by first | exact rfl | assumption) (Nat.le_of_ble_eq_true rfl)) ⟨(Nat.le_of_ble_eq_true rfl), (Nat.le_of_ble_eq_true rfl), (Nat.le_of_ble_eq_true rfl), (Nat.le_of_ble_eq_true rfl)⟩ ?_
  refine R_bipush (v := 9) dX10_isBurnt_7 (by decide) ?_
  refine R_icmp_eq (tgt := 24) dX10_isBurnt_9 rfl (fun c1 => ?_) (fun c1 => ?_)
  · refine R_iconst (v := 1) dX10_isBurnt_24 (by decide) ?_
    refine R_goto (tgt := 29) dX10_isBurnt_25 rfl ?_
    refine R_iret dX10_isBurnt_29 (by first | rfl | decide) (Nat.le_of_ble_eq_true rfl) (Nat.le_of_ble_eq_true rfl) ?_
    refine ⟨?_, rfl⟩
    simp_all [-Int32.not_lt, -Int32.not_le, zb, rBurnt]
  · refine R_aload_n dX10_isBurnt_12 rfl rfl ?_
    refine R_iload_n dX10_isBurnt_13 rfl rfl ?_
    refine R_bipush (v := 10) dX10_isBurnt_14 (by decide) ?_
    refine G_cV2 cw_X10_69 (s_X10_of hf (k := k) (w := 10) (by omega) (by decide) (by decide)) dX10_isBurnt_16 (rcv cok10 (by first | exact rfl | assumption) (Nat.le_of_ble_eq_true rfl)) ⟨(Nat.le_of_ble_eq_true rfl), (Nat.le_of_ble_eq_true rfl), (Nat.le_of_ble_eq_true rfl), (Nat.le_of_ble_eq_true rfl)⟩ ?_
    refine R_bipush (v := 9) dX10_isBurnt_19 (by decide) ?_
    refine R_icmp_ne (tgt := 28) dX10_isBurnt_21 rfl (fun c2 => ?_) (fun c2 => ?_)
    · refine R_iconst (v := 0) dX10_isBurnt_28 (by decide) ?_
      refine R_iret dX10_isBurnt_29 (by first | rfl | decide) (Nat.le_of_ble_eq_true rfl) (Nat.le_of_ble_eq_true rfl) ?_
      refine ⟨?_, rfl⟩
      simp_all [-Int32.not_lt, -Int32.not_le, zb, rBurnt]
    · refine R_iconst (v := 1) dX10_isBurnt_24 (by decide) ?_
      refine R_goto (tgt := 29) dX10_isBurnt_25 rfl ?_
      refine R_iret dX10_isBurnt_29 (by first | rfl | decide) (Nat.le_of_ble_eq_true rfl) (Nat.le_of_ble_eq_true rfl) ?_
      refine ⟨?_, rfl⟩
      simp_all [-Int32.not_lt, -Int32.not_le, zb, rBurnt]
theorem s_X10_heatOf {l : Launch} (hf : l.stackTraces = false) {p : Int32} : V_X10_heatOf l [.ref 464, .int p] (hp M r) (VI (rHeat M p) (hp M r)) := by
  refine VM.intro (lf := L9 (some (.ref 464)) (some (.int p)) none none none none none none none) (by decide +kernel) hf (fun _ => (Nat.le_of_ble_eq_true rfl)) (fun _ => rfl) ?_
  refine R_aload_n dX10_heatOf_0 rfl rfl ?_
  refine G_get cok10 0 wf_X10_7 dX10_heatOf_1 (by first | exact rfl | assumption) ⟨(Nat.le_of_ble_eq_true rfl), (Nat.le_of_ble_eq_true rfl)⟩ rfl ?_
  refine R_iconst (v := 1) dX10_heatOf_4 (by decide) ?_
  refine G_iald dX10_heatOf_5 (by first | exact rfl | assumption) (show vp_in (nI 1) 140 from nI_in12 (by omega) (by omega)) ?_
  refine R_topE (show M 465 _ = M 465 1 from rfl) ?_
  refine R_iload_n dX10_heatOf_6 rfl rfl ?_
  refine R_icmp_leN (tgt := 21) dX10_heatOf_7 rfl (fun c1 => ?_) (fun c1 => ?_)
  · refine R_iconst (v := 0) dX10_heatOf_21 (by decide) ?_
    refine R_iret dX10_heatOf_22 rfl (Nat.le_of_ble_eq_true rfl) (Nat.le_of_ble_eq_true rfl) ?_
    refine ⟨?_, rfl⟩
    simp_all [-Int32.not_lt, -Int32.not_le, rHeat]
  · refine R_aload_n dX10_heatOf_10 rfl rfl ?_
    refine G_get cok10 0 wf_X10_7 dX10_heatOf_11 (by first | exact rfl | assumption) ⟨(Nat.le_of_ble_eq_true rfl), (Nat.le_of_ble_eq_true rfl)⟩ rfl ?_
    refine R_iconst (v := 1) dX10_heatOf_14 (by decide) ?_
    refine G_iald dX10_heatOf_15 (by first | exact rfl | assumption) (show vp_in (nI 1) 140 from nI_in12 (by omega) (by omega)) ?_
    refine R_topE (show M 465 _ = M 465 1 from rfl) ?_
    refine R_iload_n dX10_heatOf_16 rfl rfl ?_
    refine R_isub dX10_heatOf_17 ?_
    refine R_goto (tgt := 22) dX10_heatOf_18 rfl ?_
    refine R_iret dX10_heatOf_22 rfl (Nat.le_of_ble_eq_true rfl) (Nat.le_of_ble_eq_true rfl) ?_
    refine ⟨?_, rfl⟩
    simp_all [-Int32.not_lt, -Int32.not_le, rHeat]
theorem s_X10_price {l : Launch} (hf : l.stackTraces = false) {k : Nat} (hk : k < 12) : V_X10_price l [.ref 464, .int (nI k)] (hp M r) (VI (rPrice M k) (hp M r)) := by
  refine VM.intro (lf := L9 (some (.ref 464)) (some (.int (nI k))) none none none none none none none) (by decide +kernel) hf (fun _ => (Nat.le_of_ble_eq_true rfl)) (fun _ => rfl) ?_
  refine R_iconst (v := 3) dX10_price_0 (by decide) ?_
  refine R_aload_n dX10_price_1 rfl rfl ?_
  refine R_iload_n dX10_price_2 rfl rfl ?_
  refine R_iconst (v := 0) dX10_price_3 (by decide) ?_
  refine G_cV2 cw_X10_69 (s_X10_of hf (k := k) (w := 0) (by omega) (by decide) (by decide)) dX10_price_4 (rcv cok10 (by first | exact rfl | assumption) (Nat.le_of_ble_eq_true rfl)) ⟨(Nat.le_of_ble_eq_true rfl), (Nat.le_of_ble_eq_true rfl), (Nat.le_of_ble_eq_true rfl), (Nat.le_of_ble_eq_true rfl)⟩ ?_
  refine R_imul dX10_price_7 ?_
  refine R_aload_n dX10_price_8 rfl rfl ?_
  refine R_iload_n dX10_price_9 rfl rfl ?_
  refine R_iconst (v := 1) dX10_price_10 (by decide) ?_
  refine G_cV2 cw_X10_69 (s_X10_of hf (k := k) (w := 1) (by omega) (by decide) (by decide)) dX10_price_11 (rcv cok10 (by first | exact rfl | assumption) (Nat.le_of_ble_eq_true rfl)) ⟨(Nat.le_of_ble_eq_true rfl), (Nat.le_of_ble_eq_true rfl), (Nat.le_of_ble_eq_true rfl), (Nat.le_of_ble_eq_true rfl)⟩ ?_
  refine R_bipush (v := 6) dX10_price_14 (by decide) ?_
  refine R_icmp_leN (tgt := 23) dX10_price_16 rfl (fun c1 => ?_) (fun c1 => ?_)
  · refine R_aload_n dX10_price_23 rfl rfl ?_
    refine R_iload_n dX10_price_24 rfl rfl ?_
    refine R_iconst (v := 1) dX10_price_25 (by decide) ?_
    refine G_cV2 cw_X10_69 (s_X10_of hf (k := k) (w := 1) (by omega) (by decide) (by decide)) dX10_price_26 (rcv cok10 (by first | exact rfl | assumption) (Nat.le_of_ble_eq_true rfl)) ⟨(Nat.le_of_ble_eq_true rfl), (Nat.le_of_ble_eq_true rfl), (Nat.le_of_ble_eq_true rfl), (Nat.le_of_ble_eq_true rfl)⟩ ?_
    refine R_iadd dX10_price_29 ?_
    refine R_iret dX10_price_30 rfl (Nat.le_of_ble_eq_true rfl) (Nat.le_of_ble_eq_true rfl) ?_
    refine ⟨?_, rfl⟩
    simp_all [-Int32.not_lt, -Int32.not_le, rPrice]
  · refine R_iconst (v := 0) dX10_price_19 (by decide) ?_
    refine R_goto (tgt := 29) dX10_price_20 rfl ?_
    refine R_iadd dX10_price_29 ?_
    refine R_iret dX10_price_30 rfl (Nat.le_of_ble_eq_true rfl) (Nat.le_of_ble_eq_true rfl) ?_
    refine ⟨?_, rfl⟩
    simp_all [-Int32.not_lt, -Int32.not_le, rPrice]
theorem L_X10_lacks {l : Launch} (hf : l.stackTraces = false) {k : Nat} (hk : k < 12) {m2 : Nat} (e2 : m2 = 2) : ∀ (j i : Nat), i + j = m2 → Q_X10_lacks l (VI (itN (fun i s => s + (if oF M k (7 + i) < 5 + oF M k 0 then 5 + oF M k 0 - oF M k (7 + i) else 0)) 0 m2) (hp M r)) 14 (L9 (some (.ref 464)) (some (.int (nI k))) (some (.int (5 + oF M k 0))) (some (.int (itN (fun i s => s + (if oF M k (7 + i) < 5 + oF M k 0 then 5 + oF M k 0 - oF M k (7 + i) else 0)) 0 i))) (some (.int (nI i))) none none none none) [] (hp (M) r) := by
  intro j
  induction j with
  | zero =>
    intro i hi
    have hin : m2 = i := by omega
    subst hin
    refine R_iload dX10_lacks_14 (by decide) rfl ?_
    refine R_iconst (v := 2) dX10_lacks_16 (by decide) ?_
    refine R_icmp_ge_t (tgt := 59) dX10_lacks_17 rfl (by rw [e2]; decide) ?_
    refine R_iload_n dX10_lacks_59 rfl rfl ?_
    refine R_iret dX10_lacks_60 rfl (Nat.le_of_ble_eq_true rfl) (Nat.le_of_ble_eq_true rfl) ?_
    exact ⟨rfl, rfl⟩
  | succ j ih =>
    intro i hi
    have hi1 : i < m2 := by omega
    refine R_iload dX10_lacks_14 (by decide) rfl ?_
    refine R_iconst (v := 2) dX10_lacks_16 (by decide) ?_
    refine R_icmp_ge_f (tgt := 59) dX10_lacks_17 rfl (nI_ge (b := 2) (by omega) (by omega)) ?_
    refine R_iload_n dX10_lacks_20 rfl rfl ?_
    refine R_iload_n dX10_lacks_21 rfl rfl ?_
    refine R_aload_n dX10_lacks_22 rfl rfl ?_
    refine R_iload_n dX10_lacks_23 rfl rfl ?_
    refine R_bipush (v := 7) dX10_lacks_24 (by decide) ?_
    refine R_iload dX10_lacks_26 (by decide) rfl ?_
    refine R_iadd dX10_lacks_28 ?_
    refine G_cV2 cw_X10_69 (s_X10_of hf (k := k) (w := 7 + i) hk (by omega) (show (7 : Int32) + nI i = nI (7 + i) from nI_add2 7 i)) dX10_lacks_29 (rcv cok10 (by first | exact rfl | assumption) (Nat.le_of_ble_eq_true rfl)) ⟨(Nat.le_of_ble_eq_true rfl), (Nat.le_of_ble_eq_true rfl), (Nat.le_of_ble_eq_true rfl), (Nat.le_of_ble_eq_true rfl)⟩ ?_
    refine R_icmp_leN (tgt := 50) dX10_lacks_32 rfl (fun c1 => ?_) (fun c1 => ?_)
    · refine R_iconst (v := 0) dX10_lacks_50 (by decide) ?_
      refine R_iadd dX10_lacks_51 ?_
      refine R_istore_n dX10_lacks_52 rfl (by decide) (st3 rfl) ?_
      first | refine R_iincN dX10_lacks_53 (by decide) rfl (by decide) (st4 rfl) ?_ | refine R_iinc1 dX10_lacks_53 (by decide) rfl (by decide) (st4 rfl) ?_
      refine R_goto (tgt := 14) dX10_lacks_56 rfl ?_
      have h9 := ih (i + 1) (by omega)
      simp only [itN] at h9
      repeat' split at h9
      all_goals first | exact h9 | (exfalso; contradiction)
    · refine R_iload_n dX10_lacks_35 rfl rfl ?_
      refine R_aload_n dX10_lacks_36 rfl rfl ?_
      refine R_iload_n dX10_lacks_37 rfl rfl ?_
      refine R_bipush (v := 7) dX10_lacks_38 (by decide) ?_
      refine R_iload dX10_lacks_40 (by decide) rfl ?_
      refine R_iadd dX10_lacks_42 ?_
      refine G_cV2 cw_X10_69 (s_X10_of hf (k := k) (w := 7 + i) hk (by omega) (show (7 : Int32) + nI i = nI (7 + i) from nI_add2 7 i)) dX10_lacks_43 (rcv cok10 (by first | exact rfl | assumption) (Nat.le_of_ble_eq_true rfl)) ⟨(Nat.le_of_ble_eq_true rfl), (Nat.le_of_ble_eq_true rfl), (Nat.le_of_ble_eq_true rfl), (Nat.le_of_ble_eq_true rfl)⟩ ?_
      refine R_isub dX10_lacks_46 ?_
      refine R_goto (tgt := 51) dX10_lacks_47 rfl ?_
      refine R_iadd dX10_lacks_51 ?_
      refine R_istore_n dX10_lacks_52 rfl (by decide) (st3 rfl) ?_
      first | refine R_iincN dX10_lacks_53 (by decide) rfl (by decide) (st4 rfl) ?_ | refine R_iinc1 dX10_lacks_53 (by decide) rfl (by decide) (st4 rfl) ?_
      refine R_goto (tgt := 14) dX10_lacks_56 rfl ?_
      have h9 := ih (i + 1) (by omega)
      simp only [itN] at h9
      repeat' split at h9
      all_goals first | exact h9 | (exfalso; contradiction)
theorem s_X10_lacks {l : Launch} (hf : l.stackTraces = false) {k : Nat} (hk : k < 12) : V_X10_lacks l [.ref 464, .int (nI k)] (hp M r) (VI (rLack M k) (hp M r)) := by
  refine VM.intro (lf := L9 (some (.ref 464)) (some (.int (nI k))) none none none none none none none) (by decide +kernel) hf (fun _ => (Nat.le_of_ble_eq_true rfl)) (fun _ => rfl) ?_
  refine R_iconst (v := 5) dX10_lacks_0 (by decide) ?_
  refine R_aload_n dX10_lacks_1 rfl rfl ?_
  refine R_iload_n dX10_lacks_2 rfl rfl ?_
  refine R_iconst (v := 0) dX10_lacks_3 (by decide) ?_
  refine G_cV2 cw_X10_69 (s_X10_of hf (k := k) (w := 0) (by omega) (by decide) (by decide)) dX10_lacks_4 (rcv cok10 (by first | exact rfl | assumption) (Nat.le_of_ble_eq_true rfl)) ⟨(Nat.le_of_ble_eq_true rfl), (Nat.le_of_ble_eq_true rfl), (Nat.le_of_ble_eq_true rfl), (Nat.le_of_ble_eq_true rfl)⟩ ?_
  refine R_iadd dX10_lacks_7 ?_
  refine R_istore_n dX10_lacks_8 rfl (by decide) (st2 rfl) ?_
  refine R_iconst (v := 0) dX10_lacks_9 (by decide) ?_
  refine R_istore_n dX10_lacks_10 rfl (by decide) (st3 rfl) ?_
  refine R_iconst (v := 0) dX10_lacks_11 (by decide) ?_
  refine R_istore dX10_lacks_12 (by decide) (st4 rfl) ?_
  exact L_X10_lacks hf hk rfl 2 0 (by omega)
theorem s_X10_isReady {l : Launch} (hf : l.stackTraces = false) {k : Nat} (hk : k < 12) : V_X10_isReady l [.ref 464, .int (nI k)] (hp M r) (VI (zb (rReady M k)) (hp M r)) := by
  refine VM.intro (lf := L9 (some (.ref 464)) (some (.int (nI k))) none none none none none none none) (by decide +kernel) hf (fun _ => (Nat.le_of_ble_eq_true rfl)) (fun _ => rfl) ?_
  refine R_aload_n dX10_isReady_0 rfl rfl ?_
  refine R_iload_n dX10_isReady_1 rfl rfl ?_
  refine G_cV1 cw_X10_91 (s_X10_isBurnt hf hk) dX10_isReady_2 (rcv cok10 (by first | exact rfl | assumption) (Nat.le_of_ble_eq_true rfl)) ⟨(Nat.le_of_ble_eq_true rfl), (Nat.le_of_ble_eq_true rfl), (Nat.le_of_ble_eq_true rfl), (Nat.le_of_ble_eq_true rfl)⟩ ?_
  refine R_if_ne (tgt := 20) dX10_isReady_5 rfl (fun c1 => ?_) (fun c1 => ?_)
  · refine R_iconst (v := 0) dX10_isReady_20 (by decide) ?_
    refine R_iret dX10_isReady_21 (by first | rfl | decide) (Nat.le_of_ble_eq_true rfl) (Nat.le_of_ble_eq_true rfl) ?_
    refine ⟨?_, rfl⟩
    simp_all [rReady, zb]
  · refine R_aload_n dX10_isReady_8 rfl rfl ?_
    refine R_iload_n dX10_isReady_9 rfl rfl ?_
    refine G_cV1 cw_X10_94 (s_X10_lacks hf hk) dX10_isReady_10 (rcv cok10 (by first | exact rfl | assumption) (Nat.le_of_ble_eq_true rfl)) ⟨(Nat.le_of_ble_eq_true rfl), (Nat.le_of_ble_eq_true rfl), (Nat.le_of_ble_eq_true rfl), (Nat.le_of_ble_eq_true rfl)⟩ ?_
    refine R_if_ne (tgt := 20) dX10_isReady_13 rfl (fun c2 => ?_) (fun c2 => ?_)
    · refine R_iconst (v := 0) dX10_isReady_20 (by decide) ?_
      refine R_iret dX10_isReady_21 (by first | rfl | decide) (Nat.le_of_ble_eq_true rfl) (Nat.le_of_ble_eq_true rfl) ?_
      refine ⟨?_, rfl⟩
      simp_all [rReady, zb]
    · refine R_iconst (v := 1) dX10_isReady_16 (by decide) ?_
      refine R_goto (tgt := 21) dX10_isReady_17 rfl ?_
      refine R_iret dX10_isReady_21 (by first | rfl | decide) (Nat.le_of_ble_eq_true rfl) (Nat.le_of_ble_eq_true rfl) ?_
      refine ⟨?_, rfl⟩
      simp_all [rReady, zb]
theorem s_X10_measured {l : Launch} (hf : l.stackTraces = false) {k : Nat} (hk : k < 12) {q : Int32} : V_X10_measured l [.ref 464, .int (nI k), .int q] (hp M r) (VI (rMea M k q) (hp M r)) := by
  refine VM.intro (lf := L9 (some (.ref 464)) (some (.int (nI k))) (some (.int q)) none none none none none none) (by decide +kernel) hf (fun _ => (Nat.le_of_ble_eq_true rfl)) (fun _ => rfl) ?_
  refine R_iload_n dX10_measured_0 rfl rfl ?_
  by_cases e0 : q = 0
  · refine R_topE e0 ?_
    refine R_tableIn (tgt := 32) dX10_measured_1 (by decide) (by decide) rfl rfl ?_
    refine R_aload_n dX10_measured_32 rfl rfl ?_
    refine R_iload_n dX10_measured_33 rfl rfl ?_
    refine R_iconst (v := 0) dX10_measured_34 (by decide) ?_
    refine G_cV2 cw_X10_69 (s_X10_of hf (k := k) (w := 0) (by omega) (by decide) (by decide)) dX10_measured_35 (rcv cok10 (by first | exact rfl | assumption) (Nat.le_of_ble_eq_true rfl)) ⟨(Nat.le_of_ble_eq_true rfl), (Nat.le_of_ble_eq_true rfl), (Nat.le_of_ble_eq_true rfl), (Nat.le_of_ble_eq_true rfl)⟩ ?_
    refine R_iret dX10_measured_38 rfl (Nat.le_of_ble_eq_true rfl) (Nat.le_of_ble_eq_true rfl) ?_
    refine ⟨?_, rfl⟩
    unfold rMea
    simp_all [-Int32.not_lt, -Int32.not_le]
  · by_cases e1 : q = 1
    · refine R_topE e1 ?_
      refine R_tableIn (tgt := 39) dX10_measured_1 (by decide) (by decide) rfl rfl ?_
      refine R_aload_n dX10_measured_39 rfl rfl ?_
      refine R_iload_n dX10_measured_40 rfl rfl ?_
      refine R_iconst (v := 1) dX10_measured_41 (by decide) ?_
      refine G_cV2 cw_X10_69 (s_X10_of hf (k := k) (w := 1) (by omega) (by decide) (by decide)) dX10_measured_42 (rcv cok10 (by first | exact rfl | assumption) (Nat.le_of_ble_eq_true rfl)) ⟨(Nat.le_of_ble_eq_true rfl), (Nat.le_of_ble_eq_true rfl), (Nat.le_of_ble_eq_true rfl), (Nat.le_of_ble_eq_true rfl)⟩ ?_
      refine R_iret dX10_measured_45 rfl (Nat.le_of_ble_eq_true rfl) (Nat.le_of_ble_eq_true rfl) ?_
      refine ⟨?_, rfl⟩
      unfold rMea
      simp_all [-Int32.not_lt, -Int32.not_le]
    · by_cases e2 : q = 2
      · refine R_topE e2 ?_
        refine R_tableIn (tgt := 46) dX10_measured_1 (by decide) (by decide) rfl rfl ?_
        refine R_aload_n dX10_measured_46 rfl rfl ?_
        refine R_iload_n dX10_measured_47 rfl rfl ?_
        refine R_bipush (v := 7) dX10_measured_48 (by decide) ?_
        refine G_cV2 cw_X10_69 (s_X10_of hf (k := k) (w := 7) (by omega) (by decide) (by decide)) dX10_measured_50 (rcv cok10 (by first | exact rfl | assumption) (Nat.le_of_ble_eq_true rfl)) ⟨(Nat.le_of_ble_eq_true rfl), (Nat.le_of_ble_eq_true rfl), (Nat.le_of_ble_eq_true rfl), (Nat.le_of_ble_eq_true rfl)⟩ ?_
        refine R_aload_n dX10_measured_53 rfl rfl ?_
        refine R_iload_n dX10_measured_54 rfl rfl ?_
        refine R_bipush (v := 8) dX10_measured_55 (by decide) ?_
        refine G_cV2 cw_X10_69 (s_X10_of hf (k := k) (w := 8) (by omega) (by decide) (by decide)) dX10_measured_57 (rcv cok10 (by first | exact rfl | assumption) (Nat.le_of_ble_eq_true rfl)) ⟨(Nat.le_of_ble_eq_true rfl), (Nat.le_of_ble_eq_true rfl), (Nat.le_of_ble_eq_true rfl), (Nat.le_of_ble_eq_true rfl)⟩ ?_
        refine R_iadd dX10_measured_60 ?_
        refine R_iret dX10_measured_61 rfl (Nat.le_of_ble_eq_true rfl) (Nat.le_of_ble_eq_true rfl) ?_
        refine ⟨?_, rfl⟩
        unfold rMea
        simp_all [-Int32.not_lt, -Int32.not_le]
      · by_cases e3 : q = 3
        · refine R_topE e3 ?_
          refine R_tableIn (tgt := 62) dX10_measured_1 (by decide) (by decide) rfl rfl ?_
          refine R_aload_n dX10_measured_62 rfl rfl ?_
          refine R_iload_n dX10_measured_63 rfl rfl ?_
          refine R_bipush (v := 9) dX10_measured_64 (by decide) ?_
          refine G_cV2 cw_X10_69 (s_X10_of hf (k := k) (w := 9) (by omega) (by decide) (by decide)) dX10_measured_66 (rcv cok10 (by first | exact rfl | assumption) (Nat.le_of_ble_eq_true rfl)) ⟨(Nat.le_of_ble_eq_true rfl), (Nat.le_of_ble_eq_true rfl), (Nat.le_of_ble_eq_true rfl), (Nat.le_of_ble_eq_true rfl)⟩ ?_
          refine R_aload_n dX10_measured_69 rfl rfl ?_
          refine R_iload_n dX10_measured_70 rfl rfl ?_
          refine R_bipush (v := 10) dX10_measured_71 (by decide) ?_
          refine G_cV2 cw_X10_69 (s_X10_of hf (k := k) (w := 10) (by omega) (by decide) (by decide)) dX10_measured_73 (rcv cok10 (by first | exact rfl | assumption) (Nat.le_of_ble_eq_true rfl)) ⟨(Nat.le_of_ble_eq_true rfl), (Nat.le_of_ble_eq_true rfl), (Nat.le_of_ble_eq_true rfl), (Nat.le_of_ble_eq_true rfl)⟩ ?_
          refine R_icmp_leN (tgt := 89) dX10_measured_76 rfl (fun c1 => ?_) (fun c1 => ?_)
          · refine R_aload_n dX10_measured_89 rfl rfl ?_
            refine R_iload_n dX10_measured_90 rfl rfl ?_
            refine R_bipush (v := 10) dX10_measured_91 (by decide) ?_
            refine G_cV2 cw_X10_69 (s_X10_of hf (k := k) (w := 10) (by omega) (by decide) (by decide)) dX10_measured_93 (rcv cok10 (by first | exact rfl | assumption) (Nat.le_of_ble_eq_true rfl)) ⟨(Nat.le_of_ble_eq_true rfl), (Nat.le_of_ble_eq_true rfl), (Nat.le_of_ble_eq_true rfl), (Nat.le_of_ble_eq_true rfl)⟩ ?_
            refine R_iret dX10_measured_96 rfl (Nat.le_of_ble_eq_true rfl) (Nat.le_of_ble_eq_true rfl) ?_
            refine ⟨?_, rfl⟩
            unfold rMea
            simp_all [-Int32.not_lt, -Int32.not_le]
          · refine R_aload_n dX10_measured_79 rfl rfl ?_
            refine R_iload_n dX10_measured_80 rfl rfl ?_
            refine R_bipush (v := 9) dX10_measured_81 (by decide) ?_
            refine G_cV2 cw_X10_69 (s_X10_of hf (k := k) (w := 9) (by omega) (by decide) (by decide)) dX10_measured_83 (rcv cok10 (by first | exact rfl | assumption) (Nat.le_of_ble_eq_true rfl)) ⟨(Nat.le_of_ble_eq_true rfl), (Nat.le_of_ble_eq_true rfl), (Nat.le_of_ble_eq_true rfl), (Nat.le_of_ble_eq_true rfl)⟩ ?_
            refine R_goto (tgt := 96) dX10_measured_86 rfl ?_
            refine R_iret dX10_measured_96 rfl (Nat.le_of_ble_eq_true rfl) (Nat.le_of_ble_eq_true rfl) ?_
            refine ⟨?_, rfl⟩
            unfold rMea
            simp_all [-Int32.not_lt, -Int32.not_le]
        · have t0 : (q).toInt ≠ 0 := fun e => e0 (Int32.toInt_inj.mp (by rw [e]; rfl))
          have t1 : (q).toInt ≠ 1 := fun e => e1 (Int32.toInt_inj.mp (by rw [e]; rfl))
          have t2 : (q).toInt ≠ 2 := fun e => e2 (Int32.toInt_inj.mp (by rw [e]; rfl))
          have t3 : (q).toInt ≠ 3 := fun e => e3 (Int32.toInt_inj.mp (by rw [e]; rfl))
          refine R_tableOut (tgt := 97) dX10_measured_1 (by omega) rfl ?_
          refine R_aload_n dX10_measured_97 rfl rfl ?_
          refine R_iload_n dX10_measured_98 rfl rfl ?_
          refine G_cV1 cw_X10_150 (s_X10_price hf hk) dX10_measured_99 (rcv cok10 (by first | exact rfl | assumption) (Nat.le_of_ble_eq_true rfl)) ⟨(Nat.le_of_ble_eq_true rfl), (Nat.le_of_ble_eq_true rfl), (Nat.le_of_ble_eq_true rfl), (Nat.le_of_ble_eq_true rfl)⟩ ?_
          refine R_iret dX10_measured_102 rfl (Nat.le_of_ble_eq_true rfl) (Nat.le_of_ble_eq_true rfl) ?_
          refine ⟨?_, rfl⟩
          unfold rMea
          simp_all [-Int32.not_lt, -Int32.not_le]
theorem L_X10_many {l : Launch} (hf : l.stackTraces = false) {n : Nat} (hn : n ≤ 12) (hg : M 465 0 = nI n) {v : Int32} : ∀ (j i : Nat), i + j = n → Q_X10_many l (VI (itN (fun i s => s + (if oF M i 2 = v then 1 else 0)) 0 n) (hp M r)) 4 (L9 (some (.ref 464)) (some (.int v)) (some (.int (itN (fun i s => s + (if oF M i 2 = v then 1 else 0)) 0 i))) (some (.int (nI i))) none none none none none) [] (hp (M) r) := by
  intro j
  induction j with
  | zero =>
    intro i hi
    have hin : n = i := by omega
    subst hin
    refine R_iload_n dX10_many_4 rfl rfl ?_
    refine R_aload_n dX10_many_5 rfl rfl ?_
    refine G_get cok10 0 wf_X10_7 dX10_many_6 (by first | exact rfl | assumption) ⟨(Nat.le_of_ble_eq_true rfl), (Nat.le_of_ble_eq_true rfl)⟩ rfl ?_
    refine R_iconst (v := 0) dX10_many_9 (by decide) ?_
    refine G_iald dX10_many_10 (by first | exact rfl | assumption) (show vp_in (nI 0) 140 from nI_in12 (by omega) (by omega)) ?_
    refine R_topE (show M 465 _ = nI n from hg) ?_
    refine R_icmp_ge_t (tgt := 38) dX10_many_11 rfl (nI_le (by omega) (by omega)) ?_
    refine R_iload_n dX10_many_38 rfl rfl ?_
    refine R_iret dX10_many_39 rfl (Nat.le_of_ble_eq_true rfl) (Nat.le_of_ble_eq_true rfl) ?_
    exact ⟨rfl, rfl⟩
  | succ j ih =>
    intro i hi
    have hi1 : i < n := by omega
    refine R_iload_n dX10_many_4 rfl rfl ?_
    refine R_aload_n dX10_many_5 rfl rfl ?_
    refine G_get cok10 0 wf_X10_7 dX10_many_6 (by first | exact rfl | assumption) ⟨(Nat.le_of_ble_eq_true rfl), (Nat.le_of_ble_eq_true rfl)⟩ rfl ?_
    refine R_iconst (v := 0) dX10_many_9 (by decide) ?_
    refine G_iald dX10_many_10 (by first | exact rfl | assumption) (show vp_in (nI 0) 140 from nI_in12 (by omega) (by omega)) ?_
    refine R_topE (show M 465 _ = nI n from hg) ?_
    refine R_icmp_ge_f (tgt := 38) dX10_many_11 rfl (nI_ge (by omega) (by omega)) ?_
    refine R_iload_n dX10_many_14 rfl rfl ?_
    refine R_aload_n dX10_many_15 rfl rfl ?_
    refine R_iload_n dX10_many_16 rfl rfl ?_
    refine R_iconst (v := 2) dX10_many_17 (by decide) ?_
    refine G_cV2 cw_X10_69 (s_X10_of hf (k := i) (w := 2) (by omega) (by decide) (by decide)) dX10_many_18 (rcv cok10 (by first | exact rfl | assumption) (Nat.le_of_ble_eq_true rfl)) ⟨(Nat.le_of_ble_eq_true rfl), (Nat.le_of_ble_eq_true rfl), (Nat.le_of_ble_eq_true rfl), (Nat.le_of_ble_eq_true rfl)⟩ ?_
    refine R_iload_n dX10_many_21 rfl rfl ?_
    refine R_icmp_ne (tgt := 29) dX10_many_22 rfl (fun c1 => ?_) (fun c1 => ?_)
    · refine R_iconst (v := 0) dX10_many_29 (by decide) ?_
      refine R_iadd dX10_many_30 ?_
      refine R_istore_n dX10_many_31 rfl (by decide) (st2 rfl) ?_
      first | refine R_iincN dX10_many_32 (by decide) rfl (by decide) (st3 rfl) ?_ | refine R_iinc1 dX10_many_32 (by decide) rfl (by decide) (st3 rfl) ?_
      refine R_goto (tgt := 4) dX10_many_35 rfl ?_
      have h9 := ih (i + 1) (by omega)
      simp only [itN] at h9
      repeat' split at h9
      all_goals first | exact h9 | (exfalso; contradiction)
    · refine R_iconst (v := 1) dX10_many_25 (by decide) ?_
      refine R_goto (tgt := 30) dX10_many_26 rfl ?_
      refine R_iadd dX10_many_30 ?_
      refine R_istore_n dX10_many_31 rfl (by decide) (st2 rfl) ?_
      first | refine R_iincN dX10_many_32 (by decide) rfl (by decide) (st3 rfl) ?_ | refine R_iinc1 dX10_many_32 (by decide) rfl (by decide) (st3 rfl) ?_
      refine R_goto (tgt := 4) dX10_many_35 rfl ?_
      have h9 := ih (i + 1) (by omega)
      simp only [itN] at h9
      repeat' split at h9
      all_goals first | exact h9 | (exfalso; contradiction)
theorem s_X10_many {l : Launch} (hf : l.stackTraces = false) {n : Nat} (hn : n ≤ 12) (hg : M 465 0 = nI n) {v : Int32} : V_X10_many l [.ref 464, .int v] (hp M r) (VI (itN (fun i s => s + (if oF M i 2 = v then 1 else 0)) 0 n) (hp M r)) := by
  refine VM.intro (lf := L9 (some (.ref 464)) (some (.int v)) none none none none none none none) (by decide +kernel) hf (fun _ => (Nat.le_of_ble_eq_true rfl)) (fun _ => rfl) ?_
  refine R_iconst (v := 0) dX10_many_0 (by decide) ?_
  refine R_istore_n dX10_many_1 rfl (by decide) (st2 rfl) ?_
  refine R_iconst (v := 0) dX10_many_2 (by decide) ?_
  refine R_istore_n dX10_many_3 rfl (by decide) (st3 rfl) ?_
  exact L_X10_many hf hn hg n 0 (by omega)
theorem L_X10_onRack {l : Launch} (hf : l.stackTraces = false) {n : Nat} (hn : n ≤ 12) (hg : M 465 0 = nI n) {p : Int32} : ∀ (j i : Nat), i + j = n → Q_X10_onRack l (VI (itN (fun i s => s + (if zb (rHang M i) = 0 then 0 else if oF M i 3 = p then 1 else 0)) 0 n) (hp M r)) 4 (L9 (some (.ref 464)) (some (.int p)) (some (.int (itN (fun i s => s + (if zb (rHang M i) = 0 then 0 else if oF M i 3 = p then 1 else 0)) 0 i))) (some (.int (nI i))) none none none none none) [] (hp (M) r) := by
  intro j
  induction j with
  | zero =>
    intro i hi
    have hin : n = i := by omega
    subst hin
    refine R_iload_n dX10_onRack_4 rfl rfl ?_
    refine R_aload_n dX10_onRack_5 rfl rfl ?_
    refine G_get cok10 0 wf_X10_7 dX10_onRack_6 (by first | exact rfl | assumption) ⟨(Nat.le_of_ble_eq_true rfl), (Nat.le_of_ble_eq_true rfl)⟩ rfl ?_
    refine R_iconst (v := 0) dX10_onRack_9 (by decide) ?_
    refine G_iald dX10_onRack_10 (by first | exact rfl | assumption) (show vp_in (nI 0) 140 from nI_in12 (by omega) (by omega)) ?_
    refine R_topE (show M 465 _ = nI n from hg) ?_
    refine R_icmp_ge_t (tgt := 46) dX10_onRack_11 rfl (nI_le (by omega) (by omega)) ?_
    refine R_iload_n dX10_onRack_46 rfl rfl ?_
    refine R_iret dX10_onRack_47 rfl (Nat.le_of_ble_eq_true rfl) (Nat.le_of_ble_eq_true rfl) ?_
    exact ⟨rfl, rfl⟩
  | succ j ih =>
    intro i hi
    have hi1 : i < n := by omega
    refine R_iload_n dX10_onRack_4 rfl rfl ?_
    refine R_aload_n dX10_onRack_5 rfl rfl ?_
    refine G_get cok10 0 wf_X10_7 dX10_onRack_6 (by first | exact rfl | assumption) ⟨(Nat.le_of_ble_eq_true rfl), (Nat.le_of_ble_eq_true rfl)⟩ rfl ?_
    refine R_iconst (v := 0) dX10_onRack_9 (by decide) ?_
    refine G_iald dX10_onRack_10 (by first | exact rfl | assumption) (show vp_in (nI 0) 140 from nI_in12 (by omega) (by omega)) ?_
    refine R_topE (show M 465 _ = nI n from hg) ?_
    refine R_icmp_ge_f (tgt := 46) dX10_onRack_11 rfl (nI_ge (by omega) (by omega)) ?_
    refine R_iload_n dX10_onRack_14 rfl rfl ?_
    refine R_aload_n dX10_onRack_15 rfl rfl ?_
    refine R_iload_n dX10_onRack_16 rfl rfl ?_
    refine G_cV1 cw_X10_73 (s_X10_hangs hf (by omega)) dX10_onRack_17 (rcv cok10 (by first | exact rfl | assumption) (Nat.le_of_ble_eq_true rfl)) ⟨(Nat.le_of_ble_eq_true rfl), (Nat.le_of_ble_eq_true rfl), (Nat.le_of_ble_eq_true rfl), (Nat.le_of_ble_eq_true rfl)⟩ ?_
    refine R_if_eq (tgt := 37) dX10_onRack_20 rfl (fun c1 => ?_) (fun c1 => ?_)
    · refine R_iconst (v := 0) dX10_onRack_37 (by decide) ?_
      refine R_iadd dX10_onRack_38 ?_
      refine R_istore_n dX10_onRack_39 rfl (by decide) (st2 rfl) ?_
      first | refine R_iincN dX10_onRack_40 (by decide) rfl (by decide) (st3 rfl) ?_ | refine R_iinc1 dX10_onRack_40 (by decide) rfl (by decide) (st3 rfl) ?_
      refine R_goto (tgt := 4) dX10_onRack_43 rfl ?_
      have h9 := ih (i + 1) (by omega)
      simp only [itN] at h9
      repeat' split at h9
      all_goals first | exact h9 | (exfalso; contradiction)
    · refine R_aload_n dX10_onRack_23 rfl rfl ?_
      refine R_iload_n dX10_onRack_24 rfl rfl ?_
      refine R_iconst (v := 3) dX10_onRack_25 (by decide) ?_
      refine G_cV2 cw_X10_69 (s_X10_of hf (k := i) (w := 3) (by omega) (by decide) (by decide)) dX10_onRack_26 (rcv cok10 (by first | exact rfl | assumption) (Nat.le_of_ble_eq_true rfl)) ⟨(Nat.le_of_ble_eq_true rfl), (Nat.le_of_ble_eq_true rfl), (Nat.le_of_ble_eq_true rfl), (Nat.le_of_ble_eq_true rfl)⟩ ?_
      refine R_iload_n dX10_onRack_29 rfl rfl ?_
      refine R_icmp_ne (tgt := 37) dX10_onRack_30 rfl (fun c2 => ?_) (fun c2 => ?_)
      · refine R_iconst (v := 0) dX10_onRack_37 (by decide) ?_
        refine R_iadd dX10_onRack_38 ?_
        refine R_istore_n dX10_onRack_39 rfl (by decide) (st2 rfl) ?_
        first | refine R_iincN dX10_onRack_40 (by decide) rfl (by decide) (st3 rfl) ?_ | refine R_iinc1 dX10_onRack_40 (by decide) rfl (by decide) (st3 rfl) ?_
        refine R_goto (tgt := 4) dX10_onRack_43 rfl ?_
        have h9 := ih (i + 1) (by omega)
        simp only [itN] at h9
        repeat' split at h9
        all_goals first | exact h9 | (exfalso; contradiction)
      · refine R_iconst (v := 1) dX10_onRack_33 (by decide) ?_
        refine R_goto (tgt := 38) dX10_onRack_34 rfl ?_
        refine R_iadd dX10_onRack_38 ?_
        refine R_istore_n dX10_onRack_39 rfl (by decide) (st2 rfl) ?_
        first | refine R_iincN dX10_onRack_40 (by decide) rfl (by decide) (st3 rfl) ?_ | refine R_iinc1 dX10_onRack_40 (by decide) rfl (by decide) (st3 rfl) ?_
        refine R_goto (tgt := 4) dX10_onRack_43 rfl ?_
        have h9 := ih (i + 1) (by omega)
        simp only [itN] at h9
        repeat' split at h9
        all_goals first | exact h9 | (exfalso; contradiction)
theorem s_X10_onRack {l : Launch} (hf : l.stackTraces = false) {n : Nat} (hn : n ≤ 12) (hg : M 465 0 = nI n) {p : Int32} : V_X10_onRack l [.ref 464, .int p] (hp M r) (VI (itN (fun i s => s + (if zb (rHang M i) = 0 then 0 else if oF M i 3 = p then 1 else 0)) 0 n) (hp M r)) := by
  refine VM.intro (lf := L9 (some (.ref 464)) (some (.int p)) none none none none none none none) (by decide +kernel) hf (fun _ => (Nat.le_of_ble_eq_true rfl)) (fun _ => rfl) ?_
  refine R_iconst (v := 0) dX10_onRack_0 (by decide) ?_
  refine R_istore_n dX10_onRack_1 rfl (by decide) (st2 rfl) ?_
  refine R_iconst (v := 0) dX10_onRack_2 (by decide) ?_
  refine R_istore_n dX10_onRack_3 rfl (by decide) (st3 rfl) ?_
  exact L_X10_onRack hf hn hg n 0 (by omega)
theorem L_X10_burnt {l : Launch} (hf : l.stackTraces = false) {n : Nat} (hn : n ≤ 12) (hg : M 465 0 = nI n) : ∀ (j i : Nat), i + j = n → Q_X10_burnt l (VI (itN (fun i s => s + (if zb (rBurnt M i) = 0 then 0 else 1)) 0 n) (hp M r)) 4 (L9 (some (.ref 464)) (some (.int (itN (fun i s => s + (if zb (rBurnt M i) = 0 then 0 else 1)) 0 i))) (some (.int (nI i))) none none none none none none) [] (hp (M) r) := by
  intro j
  induction j with
  | zero =>
    intro i hi
    have hin : n = i := by omega
    subst hin
    refine R_iload_n dX10_burnt_4 rfl rfl ?_
    refine R_aload_n dX10_burnt_5 rfl rfl ?_
    refine G_get cok10 0 wf_X10_7 dX10_burnt_6 (by first | exact rfl | assumption) ⟨(Nat.le_of_ble_eq_true rfl), (Nat.le_of_ble_eq_true rfl)⟩ rfl ?_
    refine R_iconst (v := 0) dX10_burnt_9 (by decide) ?_
    refine G_iald dX10_burnt_10 (by first | exact rfl | assumption) (show vp_in (nI 0) 140 from nI_in12 (by omega) (by omega)) ?_
    refine R_topE (show M 465 _ = nI n from hg) ?_
    refine R_icmp_ge_t (tgt := 36) dX10_burnt_11 rfl (nI_le (by omega) (by omega)) ?_
    refine R_iload_n dX10_burnt_36 rfl rfl ?_
    refine R_iret dX10_burnt_37 rfl (Nat.le_of_ble_eq_true rfl) (Nat.le_of_ble_eq_true rfl) ?_
    exact ⟨rfl, rfl⟩
  | succ j ih =>
    intro i hi
    have hi1 : i < n := by omega
    refine R_iload_n dX10_burnt_4 rfl rfl ?_
    refine R_aload_n dX10_burnt_5 rfl rfl ?_
    refine G_get cok10 0 wf_X10_7 dX10_burnt_6 (by first | exact rfl | assumption) ⟨(Nat.le_of_ble_eq_true rfl), (Nat.le_of_ble_eq_true rfl)⟩ rfl ?_
    refine R_iconst (v := 0) dX10_burnt_9 (by decide) ?_
    refine G_iald dX10_burnt_10 (by first | exact rfl | assumption) (show vp_in (nI 0) 140 from nI_in12 (by omega) (by omega)) ?_
    refine R_topE (show M 465 _ = nI n from hg) ?_
    refine R_icmp_ge_f (tgt := 36) dX10_burnt_11 rfl (nI_ge (by omega) (by omega)) ?_
    refine R_iload_n dX10_burnt_14 rfl rfl ?_
    refine R_aload_n dX10_burnt_15 rfl rfl ?_
    refine R_iload_n dX10_burnt_16 rfl rfl ?_
    refine G_cV1 cw_X10_91 (s_X10_isBurnt hf (by omega)) dX10_burnt_17 (rcv cok10 (by first | exact rfl | assumption) (Nat.le_of_ble_eq_true rfl)) ⟨(Nat.le_of_ble_eq_true rfl), (Nat.le_of_ble_eq_true rfl), (Nat.le_of_ble_eq_true rfl), (Nat.le_of_ble_eq_true rfl)⟩ ?_
    refine R_if_eq (tgt := 27) dX10_burnt_20 rfl (fun c1 => ?_) (fun c1 => ?_)
    · refine R_iconst (v := 0) dX10_burnt_27 (by decide) ?_
      refine R_iadd dX10_burnt_28 ?_
      refine R_istore_n dX10_burnt_29 rfl (by decide) (st1 rfl) ?_
      first | refine R_iincN dX10_burnt_30 (by decide) rfl (by decide) (st2 rfl) ?_ | refine R_iinc1 dX10_burnt_30 (by decide) rfl (by decide) (st2 rfl) ?_
      refine R_goto (tgt := 4) dX10_burnt_33 rfl ?_
      have h9 := ih (i + 1) (by omega)
      simp only [itN] at h9
      repeat' split at h9
      all_goals first | exact h9 | (exfalso; contradiction)
    · refine R_iconst (v := 1) dX10_burnt_23 (by decide) ?_
      refine R_goto (tgt := 28) dX10_burnt_24 rfl ?_
      refine R_iadd dX10_burnt_28 ?_
      refine R_istore_n dX10_burnt_29 rfl (by decide) (st1 rfl) ?_
      first | refine R_iincN dX10_burnt_30 (by decide) rfl (by decide) (st2 rfl) ?_ | refine R_iinc1 dX10_burnt_30 (by decide) rfl (by decide) (st2 rfl) ?_
      refine R_goto (tgt := 4) dX10_burnt_33 rfl ?_
      have h9 := ih (i + 1) (by omega)
      simp only [itN] at h9
      repeat' split at h9
      all_goals first | exact h9 | (exfalso; contradiction)
theorem s_X10_burnt {l : Launch} (hf : l.stackTraces = false) {n : Nat} (hn : n ≤ 12) (hg : M 465 0 = nI n) : V_X10_burnt l [.ref 464] (hp M r) (VI (itN (fun i s => s + (if zb (rBurnt M i) = 0 then 0 else 1)) 0 n) (hp M r)) := by
  refine VM.intro (lf := L9 (some (.ref 464)) none none none none none none none none) (by decide +kernel) hf (fun _ => (Nat.le_of_ble_eq_true rfl)) (fun _ => rfl) ?_
  refine R_iconst (v := 0) dX10_burnt_0 (by decide) ?_
  refine R_istore_n dX10_burnt_1 rfl (by decide) (st1 rfl) ?_
  refine R_iconst (v := 0) dX10_burnt_2 (by decide) ?_
  refine R_istore_n dX10_burnt_3 rfl (by decide) (st2 rfl) ?_
  exact L_X10_burnt hf hn hg n 0 (by omega)
def rOn (M : MM) (p q : Int32) (n : Nat) : Int32 := findN (fun i => rHang M i && (oF M i 3 == p && oF M i 4 == q)) n 0
theorem L_X10_onHook {l : Launch} (hf : l.stackTraces = false) {n : Nat} (hn : n ≤ 12) (hg : M 465 0 = nI n) {p q : Int32} : ∀ (j i : Nat), i + j = n → Q_X10_onHook l (VI (findN (fun i => rHang M i && (oF M i 3 == p && oF M i 4 == q)) j i) (hp M r)) 2 (L9 (some (.ref 464)) (some (.int p)) (some (.int q)) (some (.int (nI i))) none none none none none) [] (hp M r) := by
  intro j
  induction j with
  | zero =>
    intro i hi
    obtain rfl : n = i := by omega
    refine R_iload_n dX10_onHook_2 rfl rfl ?_
    refine R_aload_n dX10_onHook_3 rfl rfl ?_
    refine G_get cok10 0 wf_X10_7 dX10_onHook_4 (by first | exact rfl | assumption) ⟨(Nat.le_of_ble_eq_true rfl), (Nat.le_of_ble_eq_true rfl)⟩ rfl ?_
    refine R_iconst (v := 0) dX10_onHook_7 (by decide) ?_
    refine G_iald dX10_onHook_8 (by first | exact rfl | assumption) (show vp_in (nI 0) 140 from nI_in12 (by omega) (by omega)) ?_
    refine R_topE (show M 465 _ = nI n from hg) ?_
    refine R_icmp_ge_t (tgt := 48) dX10_onHook_9 rfl (nI_le (by omega) (by omega)) ?_
    refine R_iconst (v := (-1)) dX10_onHook_48 (by decide) ?_
    refine R_iret dX10_onHook_49 rfl (Nat.le_of_ble_eq_true rfl) (Nat.le_of_ble_eq_true rfl) ?_
    exact ⟨rfl, rfl⟩
  | succ j ih =>
    intro i hi
    have hi1 : i < n := by omega
    refine R_iload_n dX10_onHook_2 rfl rfl ?_
    refine R_aload_n dX10_onHook_3 rfl rfl ?_
    refine G_get cok10 0 wf_X10_7 dX10_onHook_4 (by first | exact rfl | assumption) ⟨(Nat.le_of_ble_eq_true rfl), (Nat.le_of_ble_eq_true rfl)⟩ rfl ?_
    refine R_iconst (v := 0) dX10_onHook_7 (by decide) ?_
    refine G_iald dX10_onHook_8 (by first | exact rfl | assumption) (show vp_in (nI 0) 140 from nI_in12 (by omega) (by omega)) ?_
    refine R_topE (show M 465 _ = nI n from hg) ?_
    refine R_icmp_ge_f (tgt := 48) dX10_onHook_9 rfl (nI_ge (by omega) (by omega)) ?_
    refine R_aload_n dX10_onHook_12 rfl rfl ?_
    refine R_iload_n dX10_onHook_13 rfl rfl ?_
    refine G_cV1 cw_X10_73 (s_X10_hangs hf (by omega)) dX10_onHook_14 (rcv cok10 (by first | exact rfl | assumption) (Nat.le_of_ble_eq_true rfl)) ⟨(Nat.le_of_ble_eq_true rfl), (Nat.le_of_ble_eq_true rfl), (Nat.le_of_ble_eq_true rfl), (Nat.le_of_ble_eq_true rfl)⟩ ?_
    refine R_if_eq (tgt := 42) dX10_onHook_17 rfl (fun c1 => ?_) (fun c1 => ?_)
    · first | refine R_iincN dX10_onHook_42 (by decide) rfl (by decide) (st3 rfl) ?_ | refine R_iinc1 dX10_onHook_42 (by decide) rfl (by decide) (st3 rfl) ?_
      refine R_goto (tgt := 2) dX10_onHook_45 rfl ?_
      have e0 : (fun i => rHang M i && (oF M i 3 == p && oF M i 4 == q)) i = false := by simp_all [-Int32.not_lt, zb_0, zb_n0]
      rw [findN, if_neg (fun z => Bool.false_ne_true (e0.symm.trans z))]
      exact ih (i + 1) (by omega)
    · refine R_aload_n dX10_onHook_20 rfl rfl ?_
      refine R_iload_n dX10_onHook_21 rfl rfl ?_
      refine R_iconst (v := 3) dX10_onHook_22 (by decide) ?_
      refine G_cV2 cw_X10_69 (s_X10_of hf (k := i) (w := 3) (by omega) (by decide) (by decide)) dX10_onHook_23 (rcv cok10 (by first | exact rfl | assumption) (Nat.le_of_ble_eq_true rfl)) ⟨(Nat.le_of_ble_eq_true rfl), (Nat.le_of_ble_eq_true rfl), (Nat.le_of_ble_eq_true rfl), (Nat.le_of_ble_eq_true rfl)⟩ ?_
      refine R_iload_n dX10_onHook_26 rfl rfl ?_
      refine R_icmp_ne (tgt := 42) dX10_onHook_27 rfl (fun c2 => ?_) (fun c2 => ?_)
      · first | refine R_iincN dX10_onHook_42 (by decide) rfl (by decide) (st3 rfl) ?_ | refine R_iinc1 dX10_onHook_42 (by decide) rfl (by decide) (st3 rfl) ?_
        refine R_goto (tgt := 2) dX10_onHook_45 rfl ?_
        have e0 : (fun i => rHang M i && (oF M i 3 == p && oF M i 4 == q)) i = false := by simp_all [-Int32.not_lt, zb_0, zb_n0]
        rw [findN, if_neg (fun z => Bool.false_ne_true (e0.symm.trans z))]
        exact ih (i + 1) (by omega)
      · refine R_aload_n dX10_onHook_30 rfl rfl ?_
        refine R_iload_n dX10_onHook_31 rfl rfl ?_
        refine R_iconst (v := 4) dX10_onHook_32 (by decide) ?_
        refine G_cV2 cw_X10_69 (s_X10_of hf (k := i) (w := 4) (by omega) (by decide) (by decide)) dX10_onHook_33 (rcv cok10 (by first | exact rfl | assumption) (Nat.le_of_ble_eq_true rfl)) ⟨(Nat.le_of_ble_eq_true rfl), (Nat.le_of_ble_eq_true rfl), (Nat.le_of_ble_eq_true rfl), (Nat.le_of_ble_eq_true rfl)⟩ ?_
        refine R_iload_n dX10_onHook_36 rfl rfl ?_
        refine R_icmp_ne (tgt := 42) dX10_onHook_37 rfl (fun c3 => ?_) (fun c3 => ?_)
        · first | refine R_iincN dX10_onHook_42 (by decide) rfl (by decide) (st3 rfl) ?_ | refine R_iinc1 dX10_onHook_42 (by decide) rfl (by decide) (st3 rfl) ?_
          refine R_goto (tgt := 2) dX10_onHook_45 rfl ?_
          have e0 : (fun i => rHang M i && (oF M i 3 == p && oF M i 4 == q)) i = false := by simp_all [-Int32.not_lt, zb_0, zb_n0]
          rw [findN, if_neg (fun z => Bool.false_ne_true (e0.symm.trans z))]
          exact ih (i + 1) (by omega)
        · refine R_iload_n dX10_onHook_40 rfl rfl ?_
          refine R_iret dX10_onHook_41 rfl (Nat.le_of_ble_eq_true rfl) (Nat.le_of_ble_eq_true rfl) ?_
          have e1 : (fun i => rHang M i && (oF M i 3 == p && oF M i 4 == q)) i = true := by simp_all [-Int32.not_lt, zb_0, zb_n0]
          rw [findN, if_pos e1]
          exact ⟨rfl, rfl⟩
theorem s_X10_onHook {l : Launch} (hf : l.stackTraces = false) {n : Nat} (hn : n ≤ 12) (hg : M 465 0 = nI n) {p q : Int32} : V_X10_onHook l [.ref 464, .int p, .int q] (hp M r) (VI (rOn M p q n) (hp M r)) := by
  refine VM.intro (lf := L9 (some (.ref 464)) (some (.int p)) (some (.int q)) none none none none none none) (by decide +kernel) hf (fun _ => (Nat.le_of_ble_eq_true rfl)) (fun _ => rfl) ?_
  refine R_iconst (v := 0) dX10_onHook_0 (by decide) ?_
  refine R_istore_n dX10_onHook_1 rfl (by decide) (st3 rfl) ?_
  exact L_X10_onHook hf hn hg n 0 (by omega)
def rFar (M : MM) (x p q : Int32) (n : Nat) : Int32 := itN (fun i s => if nI i = x then s else if zb (rHang M i) = 0 then s else if oF M i 3 = p then mn2 (gp (oF M i 4) q) s else s) 99 n
theorem L_X10_far {l : Launch} (hf : l.stackTraces = false) {n : Nat} (hn : n ≤ 12) (hg : M 465 0 = nI n) {x p q : Int32} : ∀ (j i : Nat), i + j = n → Q_X10_far l (VI (itN (fun i s => if nI i = x then s else if zb (rHang M i) = 0 then s else if oF M i 3 = p then mn2 (gp (oF M i 4) q) s else s) 99 n) (hp M r)) 7 (L9 (some (.ref 464)) (some (.int x)) (some (.int p)) (some (.int q)) (some (.int (itN (fun i s => if nI i = x then s else if zb (rHang M i) = 0 then s else if oF M i 3 = p then mn2 (gp (oF M i 4) q) s else s) 99 i))) (some (.int (nI i))) none none none) [] (hp (M) r) := by
  intro j
  induction j with
  | zero =>
    intro i hi
    have hin : n = i := by omega
    subst hin
    refine R_iload dX10_far_7 (by decide) rfl ?_
    refine R_aload_n dX10_far_9 rfl rfl ?_
    refine G_get cok10 0 wf_X10_7 dX10_far_10 (by first | exact rfl | assumption) ⟨(Nat.le_of_ble_eq_true rfl), (Nat.le_of_ble_eq_true rfl)⟩ rfl ?_
    refine R_iconst (v := 0) dX10_far_13 (by decide) ?_
    refine G_iald dX10_far_14 (by first | exact rfl | assumption) (show vp_in (nI 0) 140 from nI_in12 (by omega) (by omega)) ?_
    refine R_topE (show M 465 _ = nI n from hg) ?_
    refine R_icmp_ge_t (tgt := 68) dX10_far_15 rfl (nI_le (by omega) (by omega)) ?_
    refine R_iload dX10_far_68 (by decide) rfl ?_
    refine R_iret dX10_far_70 rfl (Nat.le_of_ble_eq_true rfl) (Nat.le_of_ble_eq_true rfl) ?_
    exact ⟨rfl, rfl⟩
  | succ j ih =>
    intro i hi
    have hi1 : i < n := by omega
    refine R_iload dX10_far_7 (by decide) rfl ?_
    refine R_aload_n dX10_far_9 rfl rfl ?_
    refine G_get cok10 0 wf_X10_7 dX10_far_10 (by first | exact rfl | assumption) ⟨(Nat.le_of_ble_eq_true rfl), (Nat.le_of_ble_eq_true rfl)⟩ rfl ?_
    refine R_iconst (v := 0) dX10_far_13 (by decide) ?_
    refine G_iald dX10_far_14 (by first | exact rfl | assumption) (show vp_in (nI 0) 140 from nI_in12 (by omega) (by omega)) ?_
    refine R_topE (show M 465 _ = nI n from hg) ?_
    refine R_icmp_ge_f (tgt := 68) dX10_far_15 rfl (nI_ge (by omega) (by omega)) ?_
    refine R_iload dX10_far_18 (by decide) rfl ?_
    refine R_iload_n dX10_far_20 rfl rfl ?_
    refine R_icmp_eq (tgt := 62) dX10_far_21 rfl (fun c1 => ?_) (fun c1 => ?_)
    · first | refine R_iincN dX10_far_62 (by decide) rfl (by decide) (st5 rfl) ?_ | refine R_iinc1 dX10_far_62 (by decide) rfl (by decide) (st5 rfl) ?_
      refine R_goto (tgt := 7) dX10_far_65 rfl ?_
      have h9 := ih (i + 1) (by omega)
      simp only [itN] at h9
      repeat' split at h9
      all_goals first | exact h9 | (exfalso; contradiction)
    · refine R_aload_n dX10_far_24 rfl rfl ?_
      refine R_iload dX10_far_25 (by decide) rfl ?_
      refine G_cV1 cw_X10_73 (s_X10_hangs hf (by omega)) dX10_far_27 (rcv cok10 (by first | exact rfl | assumption) (Nat.le_of_ble_eq_true rfl)) ⟨(Nat.le_of_ble_eq_true rfl), (Nat.le_of_ble_eq_true rfl), (Nat.le_of_ble_eq_true rfl), (Nat.le_of_ble_eq_true rfl)⟩ ?_
      refine R_if_eq (tgt := 62) dX10_far_30 rfl (fun c2 => ?_) (fun c2 => ?_)
      · first | refine R_iincN dX10_far_62 (by decide) rfl (by decide) (st5 rfl) ?_ | refine R_iinc1 dX10_far_62 (by decide) rfl (by decide) (st5 rfl) ?_
        refine R_goto (tgt := 7) dX10_far_65 rfl ?_
        have h9 := ih (i + 1) (by omega)
        simp only [itN] at h9
        repeat' split at h9
        all_goals first | exact h9 | (exfalso; contradiction)
      · refine R_aload_n dX10_far_33 rfl rfl ?_
        refine R_iload dX10_far_34 (by decide) rfl ?_
        refine R_iconst (v := 3) dX10_far_36 (by decide) ?_
        refine G_cV2 cw_X10_69 (s_X10_of hf (k := i) (w := 3) (by omega) (by decide) (by decide)) dX10_far_37 (rcv cok10 (by first | exact rfl | assumption) (Nat.le_of_ble_eq_true rfl)) ⟨(Nat.le_of_ble_eq_true rfl), (Nat.le_of_ble_eq_true rfl), (Nat.le_of_ble_eq_true rfl), (Nat.le_of_ble_eq_true rfl)⟩ ?_
        refine R_iload_n dX10_far_40 rfl rfl ?_
        refine R_icmp_ne (tgt := 62) dX10_far_41 rfl (fun c3 => ?_) (fun c3 => ?_)
        · first | refine R_iincN dX10_far_62 (by decide) rfl (by decide) (st5 rfl) ?_ | refine R_iinc1 dX10_far_62 (by decide) rfl (by decide) (st5 rfl) ?_
          refine R_goto (tgt := 7) dX10_far_65 rfl ?_
          have h9 := ih (i + 1) (by omega)
          simp only [itN] at h9
          repeat' split at h9
          all_goals first | exact h9 | (exfalso; contradiction)
        · refine R_aload_n dX10_far_44 rfl rfl ?_
          refine R_iload dX10_far_45 (by decide) rfl ?_
          refine R_iconst (v := 4) dX10_far_47 (by decide) ?_
          refine G_cV2 cw_X10_69 (s_X10_of hf (k := i) (w := 4) (by omega) (by decide) (by decide)) dX10_far_48 (rcv cok10 (by first | exact rfl | assumption) (Nat.le_of_ble_eq_true rfl)) ⟨(Nat.le_of_ble_eq_true rfl), (Nat.le_of_ble_eq_true rfl), (Nat.le_of_ble_eq_true rfl), (Nat.le_of_ble_eq_true rfl)⟩ ?_
          refine R_iload_n dX10_far_51 rfl rfl ?_
          refine G_cS2 cw_X10_77 (s_X10_gap hf) dX10_far_52 ⟨(Nat.le_of_ble_eq_true rfl), (Nat.le_of_ble_eq_true rfl), (Nat.le_of_ble_eq_true rfl), (Nat.le_of_ble_eq_true rfl)⟩ ?_
          refine R_iload dX10_far_55 (by decide) rfl ?_
          refine G_cS2 cw_X10_80 (s_X10_atMost hf) dX10_far_57 ⟨(Nat.le_of_ble_eq_true rfl), (Nat.le_of_ble_eq_true rfl), (Nat.le_of_ble_eq_true rfl), (Nat.le_of_ble_eq_true rfl)⟩ ?_
          refine R_istore dX10_far_60 (by decide) (st4 rfl) ?_
          first | refine R_iincN dX10_far_62 (by decide) rfl (by decide) (st5 rfl) ?_ | refine R_iinc1 dX10_far_62 (by decide) rfl (by decide) (st5 rfl) ?_
          refine R_goto (tgt := 7) dX10_far_65 rfl ?_
          have h9 := ih (i + 1) (by omega)
          simp only [itN] at h9
          repeat' split at h9
          all_goals first | exact h9 | (exfalso; contradiction)
theorem s_X10_far {l : Launch} (hf : l.stackTraces = false) {n : Nat} (hn : n ≤ 12) (hg : M 465 0 = nI n) {x p q : Int32} : V_X10_far l [.ref 464, .int x, .int p, .int q] (hp M r) (VI (rFar M x p q n) (hp M r)) := by
  refine VM.intro (lf := L9 (some (.ref 464)) (some (.int x)) (some (.int p)) (some (.int q)) none none none none none) (by decide +kernel) hf (fun _ => (Nat.le_of_ble_eq_true rfl)) (fun _ => rfl) ?_
  refine R_bipush (v := 99) dX10_far_0 (by decide) ?_
  refine R_istore dX10_far_2 (by decide) (st4 rfl) ?_
  refine R_iconst (v := 0) dX10_far_4 (by decide) ?_
  refine R_istore dX10_far_5 (by decide) (st5 rfl) ?_
  exact L_X10_far hf hn hg n 0 (by omega)
def rNear (M : MM) (k n : Nat) : Bool := rHang M k && decide (rFar M (nI k) (oF M k 3) (oF M k 4) n < 1 + oF M k 0 / 3)
theorem s_X10_isNear {l : Launch} (hf : l.stackTraces = false) {n : Nat} (hn : n ≤ 12) (hg : M 465 0 = nI n) {k : Nat} (hk : k < 12) : V_X10_isNear l [.ref 464, .int (nI k)] (hp M r) (VI (zb (rNear M k n)) (hp M r)) := by
  refine VM.intro (lf := L9 (some (.ref 464)) (some (.int (nI k))) none none none none none none none) (by decide +kernel) hf (fun _ => (Nat.le_of_ble_eq_true rfl)) (fun _ => rfl) ?_
  refine R_aload_n dX10_isNear_0 rfl rfl ?_
  refine R_iload_n dX10_isNear_1 rfl rfl ?_
  refine G_cV1 cw_X10_73 (s_X10_hangs hf hk) dX10_isNear_2 (rcv cok10 (by first | exact rfl | assumption) (Nat.le_of_ble_eq_true rfl)) ⟨(Nat.le_of_ble_eq_true rfl), (Nat.le_of_ble_eq_true rfl), (Nat.le_of_ble_eq_true rfl), (Nat.le_of_ble_eq_true rfl)⟩ ?_
  refine R_if_eq (tgt := 37) dX10_isNear_5 rfl (fun c1 => ?_) (fun c1 => ?_)
  · refine R_iconst (v := 0) dX10_isNear_37 (by decide) ?_
    refine R_iret dX10_isNear_38 (by first | rfl | decide) (Nat.le_of_ble_eq_true rfl) (Nat.le_of_ble_eq_true rfl) ?_
    refine ⟨?_, rfl⟩
    simp_all [-Int32.not_lt, rNear, zb]
  · refine R_aload_n dX10_isNear_8 rfl rfl ?_
    refine R_iload_n dX10_isNear_9 rfl rfl ?_
    refine R_aload_n dX10_isNear_10 rfl rfl ?_
    refine R_iload_n dX10_isNear_11 rfl rfl ?_
    refine R_iconst (v := 3) dX10_isNear_12 (by decide) ?_
    refine G_cV2 cw_X10_69 (s_X10_of hf (k := k) (w := 3) (by omega) (by decide) (by decide)) dX10_isNear_13 (rcv cok10 (by first | exact rfl | assumption) (Nat.le_of_ble_eq_true rfl)) ⟨(Nat.le_of_ble_eq_true rfl), (Nat.le_of_ble_eq_true rfl), (Nat.le_of_ble_eq_true rfl), (Nat.le_of_ble_eq_true rfl)⟩ ?_
    refine R_aload_n dX10_isNear_16 rfl rfl ?_
    refine R_iload_n dX10_isNear_17 rfl rfl ?_
    refine R_iconst (v := 4) dX10_isNear_18 (by decide) ?_
    refine G_cV2 cw_X10_69 (s_X10_of hf (k := k) (w := 4) (by omega) (by decide) (by decide)) dX10_isNear_19 (rcv cok10 (by first | exact rfl | assumption) (Nat.le_of_ble_eq_true rfl)) ⟨(Nat.le_of_ble_eq_true rfl), (Nat.le_of_ble_eq_true rfl), (Nat.le_of_ble_eq_true rfl), (Nat.le_of_ble_eq_true rfl)⟩ ?_
    refine G_cV3 cw_X10_83 (s_X10_far hf hn hg) dX10_isNear_22 (rcv cok10 (by first | exact rfl | assumption) (Nat.le_of_ble_eq_true rfl)) ⟨(Nat.le_of_ble_eq_true rfl), (Nat.le_of_ble_eq_true rfl), (Nat.le_of_ble_eq_true rfl), (Nat.le_of_ble_eq_true rfl)⟩ ?_
    refine R_aload_n dX10_isNear_25 rfl rfl ?_
    refine R_iload_n dX10_isNear_26 rfl rfl ?_
    refine G_cV1 cw_X10_87 (s_X10_needs hf hk) dX10_isNear_27 (rcv cok10 (by first | exact rfl | assumption) (Nat.le_of_ble_eq_true rfl)) ⟨(Nat.le_of_ble_eq_true rfl), (Nat.le_of_ble_eq_true rfl), (Nat.le_of_ble_eq_true rfl), (Nat.le_of_ble_eq_true rfl)⟩ ?_
    refine R_icmp_geN (tgt := 37) dX10_isNear_30 rfl (fun c2 => ?_) (fun c2 => ?_)
    · refine R_iconst (v := 0) dX10_isNear_37 (by decide) ?_
      refine R_iret dX10_isNear_38 (by first | rfl | decide) (Nat.le_of_ble_eq_true rfl) (Nat.le_of_ble_eq_true rfl) ?_
      refine ⟨?_, rfl⟩
      simp_all [-Int32.not_lt, rNear, zb]
    · refine R_iconst (v := 1) dX10_isNear_33 (by decide) ?_
      refine R_goto (tgt := 38) dX10_isNear_34 rfl ?_
      refine R_iret dX10_isNear_38 (by first | rfl | decide) (Nat.le_of_ble_eq_true rfl) (Nat.le_of_ble_eq_true rfl) ?_
      refine ⟨?_, rfl⟩
      simp_all [-Int32.not_lt, rNear, zb]
end P23
