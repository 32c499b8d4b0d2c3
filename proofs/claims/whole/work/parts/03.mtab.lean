/-! THE SMALL MACHINE. Values are pairs (tag, number): 0 int, 1 long, 2 a cell by its place (negative: null), 3 a text constant, 9 nothing.
A world is a function of place and slot; cells lie in the order in which the constructors make them; the cell of place a lies at address base + a. -/
abbrev zV : Type := Nat × Int
abbrev zW : Type := Int → Int → Int
abbrev zR : Type := zV × Nat × zW
abbrev zS : Type := Nat × List zV × List zV × Nat × zW
abbrev zO : Type := zS ⊕ (zV ⊕ (Nat × List zV × List zV))
abbrev vwCl : List vw_C := [(RX0, TX0, 3), (RX1, TX1, 4), (RX2, TX2, 11), (RX3, TX3, 15), (RX4, TX4, 3), (RX5, TX5, 3), (RX6, TX6, 7), (RX7, TX7, 10), (RX8, TX8, 43)]
def zRn (c : Nat) : String := match c with
  | 0 => RX0
  | 1 => RX1
  | 2 => RX2
  | 3 => RX3
  | 4 => RX4
  | 5 => RX5
  | 6 => RX6
  | 7 => RX7
  | 8 => RX8
  | _ => RL
def zTt (c : Nat) : u_T := match c with
  | 0 => TX0
  | 1 => TX1
  | 2 => TX2
  | 3 => TX3
  | 4 => TX4
  | 5 => TX5
  | 6 => TX6
  | 7 => TX7
  | 8 => TX8
  | _ => TX8
def zty (c : Nat) : Nat → FieldType := match c with
  | 0 => tyX0
  | 1 => tyX1
  | 2 => tyX2
  | 3 => tyX3
  | 4 => tyX4
  | 5 => tyX5
  | 6 => tyX6
  | 7 => tyX7
  | 8 => tyX8
  | _ => tyX8
def zNf (c : Nat) : Nat := match c with
  | 0 => 3
  | 1 => 4
  | 2 => 11
  | 3 => 15
  | 4 => 3
  | 5 => 3
  | 6 => 7
  | 7 => 10
  | 8 => 43
  | _ => 0
/-- the cells: kind (a class, 20 int[], 21 long[], 22 boolean[]) and length -/
def zSH : List (Nat × Nat) := [(7, 10), (20, 120), (6, 7), (20, 3), (20, 4), (20, 4), (20, 20), (20, 20), (20, 20), (6, 7), (20, 3), (20, 4), (20, 4), (20, 20), (20, 20), (20, 20), (1, 4), (20, 121), (20, 121), (2, 11), (20, 3), (20, 3), (20, 3), (20, 4), (20, 4), (20, 4), (20, 4), (20, 4), (20, 4), (0, 3), (4, 3), (21, 12), (20, 12), (22, 12), (4, 3), (21, 2), (20, 2), (22, 2), (5, 3), (20, 6), (20, 6), (3, 15), (21, 3000), (20, 3000), (20, 8192), (2, 11), (20, 3), (20, 3), (20, 3), (20, 4), (20, 4), (20, 4), (20, 4), (20, 4), (20, 4), (2, 11), (20, 3), (20, 3), (20, 3), (20, 4), (20, 4), (20, 4), (20, 4), (20, 4), (20, 4), (20, 3), (20, 3), (8, 43), (20, 3), (20, 4), (20, 4), (20, 60), (20, 25), (20, 4), (20, 120), (20, 3), (20, 4), (20, 4), (20, 60), (21, 12), (20, 12), (21, 3001), (20, 3001), (20, 3001), (20, 3001), (20, 8192), (20, 3), (20, 3), (20, 12), (21, 2), (20, 2), (22, 2)]
def zsh (a : Int) : Nat × Nat := if a < 0 then (99, 0) else zSH.getD a.toNat (99, 0)
abbrev zN : Nat := 92
/-- the fields that are laid once and for all: how far off the cell is that they hold -/
def zLKc (c : Nat) : List (Nat × Int) := match c with
  | 0 => [(0, 1)]
  | 1 => [(0, 1), (1, 2)]
  | 2 => [(0, 1), (1, 2), (2, 3), (3, 4), (4, 5), (5, 6), (6, 7), (7, 8), (8, 9)]
  | 3 => [(0, 1), (1, 2), (2, 3), (3, 4), (4, 14), (5, 24), (6, 25)]
  | 4 => [(0, 1), (1, 2), (2, 3)]
  | 5 => [(0, 1), (1, 2)]
  | 6 => [(0, 1), (1, 2), (2, 3), (3, 4), (4, 5), (5, 6)]
  | 7 => [(0, 1), (4, 16), (5, 19), (6, 29), (7, 34), (8, 38), (9, 41)]
  | 8 => [(0, 1), (2, 2), (3, 3), (4, 4), (5, 5), (7, 6), (8, 7), (16, 8), (17, 9), (18, 10), (19, 11), (20, 12), (21, 13), (23, 14), (24, 15), (25, 16), (26, 17), (27, 18), (33, 19), (34, 20), (38, 21), (40, 22), (41, 23), (42, 24)]
  | _ => []
def zlk (c k : Nat) : Option Int := (zLKc c).lookup k
def zLKl : List (Int × Int × Int) := [(0, 0, 1), (0, 4, 16), (0, 5, 19), (0, 6, 29), (0, 7, 34), (0, 8, 38), (0, 9, 41), (2, 0, 3), (2, 1, 4), (2, 2, 5), (2, 3, 6), (2, 4, 7), (2, 5, 8), (9, 0, 10), (9, 1, 11), (9, 2, 12), (9, 3, 13), (9, 4, 14), (9, 5, 15), (16, 0, 17), (16, 1, 18), (19, 0, 20), (19, 1, 21), (19, 2, 22), (19, 3, 23), (19, 4, 24), (19, 5, 25), (19, 6, 26), (19, 7, 27), (19, 8, 28), (29, 0, 30), (30, 0, 31), (30, 1, 32), (30, 2, 33), (34, 0, 35), (34, 1, 36), (34, 2, 37), (38, 0, 39), (38, 1, 40), (41, 0, 42), (41, 1, 43), (41, 2, 44), (41, 3, 45), (41, 4, 55), (41, 5, 65), (41, 6, 66), (45, 0, 46), (45, 1, 47), (45, 2, 48), (45, 3, 49), (45, 4, 50), (45, 5, 51), (45, 6, 52), (45, 7, 53), (45, 8, 54), (55, 0, 56), (55, 1, 57), (55, 2, 58), (55, 3, 59), (55, 4, 60), (55, 5, 61), (55, 6, 62), (55, 7, 63), (55, 8, 64), (67, 0, 68), (67, 2, 69), (67, 3, 70), (67, 4, 71), (67, 5, 72), (67, 7, 73), (67, 8, 74), (67, 16, 75), (67, 17, 76), (67, 18, 77), (67, 19, 78), (67, 20, 79), (67, 21, 80), (67, 23, 81), (67, 24, 82), (67, 25, 83), (67, 26, 84), (67, 27, 85), (67, 33, 86), (67, 34, 87), (67, 38, 88), (67, 40, 89), (67, 41, 90), (67, 42, 91)]
def zLk (w : zW) : Prop := ∀ q ∈ zLKl, w q.1 q.2.1 = q.2.2
/-- the methods: class, name, code, locals, what it returns, whether the cells are all laid -/
def zT1 : List (Nat × MethodName × ByteArray × Nat × Option FieldType × Bool) := [
  (0, yX0_init, cX0_init, 1, none, false),
  (0, yX0_empty, cX0_empty, 1, none, true),
  (0, yX0_push, cX0_push, 2, none, true),
  (0, yX0_pop, cX0_pop, 2, none, true),
  (1, yX1_init, cX1_init, 1, none, false),
  (1, yX1_read, cX1_read, 5, (some .int), true),
  (1, yX1_split, cX1_split, 6, none, true),
  (1, yX1_kindOf, cX1_kindOf, 1, (some .int), true),
  (1, yX1_addToken, cX1_addToken, 3, none, true),
  (1, yX1_token, cX1_token, 1, (some .int), true),
  (1, yX1_start, cX1_start, 1, (some .int), true),
  (1, yX1_takeItem, cX1_takeItem, 2, (some .boolean), true),
  (1, yX1_takeValue, cX1_takeValue, 4, (some .boolean), true),
  (1, yX1_takeRank, cX1_takeRank, 4, (some .boolean), true),
  (1, yX1_takeThread, cX1_takeThread, 3, (some .boolean), true),
  (1, yX1_takeOperation, cX1_takeOperation, 5, (some .boolean), true),
  (1, yX1_takeNumber, cX1_takeNumber, 4, (some .int), true),
  (1, yX1_takeEnd, cX1_takeEnd, 1, (some .boolean), true),
  (2, yX2_init, cX2_init, 1, none, false),
  (2, yX2_begin, cX2_begin, 3, none, true),
  (2, yX2_packed, cX2_packed, 4, (some .long), true),
  (2, yX2_unpack, cX2_unpack, 6, none, true),
  (2, yX2_isEnd, cX2_isEnd, 2, (some .boolean), true),
  (2, yX2_isStuck, cX2_isStuck, 3, (some .boolean), true),
  (2, yX2_howMany, cX2_howMany, 5, (some .int), true),
  (2, yX2_lentRank, cX2_lentRank, 3, (some .int), true),
  (2, yX2_lendRanks, cX2_lendRanks, 5, none, true),
  (2, yX2_awaited, cX2_awaited, 2, (some .int), true),
  (2, yX2_is, cX2_is, 4, (some .boolean), true),
  (2, yX2_perform, cX2_perform, 6, none, true),
  (2, yX2_change, cX2_change, 5, none, true),
  (2, yX2_waitAtOnce, cX2_waitAtOnce, 5, none, true),
  (2, yX2_waitInTwo, cX2_waitInTwo, 5, none, true),
  (2, yX2_wake, cX2_wake, 6, none, true),
  (2, yX2_move, cX2_move, 6, none, true),
  (2, yX2_lock, cX2_lock, 4, none, true),
  (2, yX2_leadsTo, cX2_leadsTo, 5, (some .boolean), true),
  (2, yX2_unlock, cX2_unlock, 4, none, true),
  (2, yX2_die, cX2_die, 4, none, true),
  (2, yX2_handOn, cX2_handOn, 6, none, true)]
def zT2 : List (Nat × MethodName × ByteArray × Nat × Option FieldType × Bool) := [
  (2, yX2_take, cX2_take, 3, none, true),
  (2, yX2_firstAsleep, cX2_firstAsleep, 3, (some .int), true),
  (2, yX2_join, cX2_join, 4, none, true),
  (2, yX2_release, cX2_release, 5, none, true),
  (2, yX2_goOn, cX2_goOn, 3, none, true),
  (3, yX3_init, cX3_init, 1, none, false),
  (3, yX3_knows, cX3_knows, 5, (some .boolean), true),
  (3, yX3_empty, cX3_empty, 2, none, true),
  (3, yX3_add, cX3_add, 8, none, true),
  (3, yX3_append, cX3_append, 5, none, true),
  (3, yX3_isState, cX3_isState, 2, (some .boolean), true),
  (3, yX3_weigh, cX3_weigh, 3, none, true),
  (3, yX3_weighEnd, cX3_weighEnd, 3, none, true),
  (3, yX3_weighStuck, cX3_weighStuck, 3, none, true),
  (3, yX3_stepsTo, cX3_stepsTo, 4, (some .int), true),
  (3, yX3_stepper, cX3_stepper, 6, (some .int), true),
  (3, yX3_endsThatFit, cX3_endsThatFit, 6, (some .int), true),
  (4, yX4_init, cX4_init, 3, none, false),
  (4, yX4_empty, cX4_empty, 2, none, true),
  (4, yX4_holds, cX4_holds, 2, (some .boolean), true),
  (4, yX4_put, cX4_put, 3, none, true),
  (4, yX4_fetch, cX4_fetch, 3, none, true),
  (5, yX5_init, cX5_init, 1, none, false),
  (5, yX5_add, cX5_add, 3, none, true),
  (5, yX5_fit, cX5_fit, 4, (some .boolean), true),
  (6, yX6_init, cX6_init, 1, none, false),
  (6, yX6_empty, cX6_empty, 2, none, true),
  (6, yX6_addOperation, cX6_addOperation, 6, none, true),
  (6, yX6_letterOf, cX6_letterOf, 3, (some .int), true),
  (6, yX6_placeOf, cX6_placeOf, 3, (some .int), true),
  (6, yX6_numberOf, cX6_numberOf, 3, (some .int), true),
  (6, yX6_isOperation, cX6_isOperation, 3, (some .boolean), true),
  (7, yX7_init, cX7_init, 1, none, false),
  (7, yX7_type, cX7_type, 2, (some .int), true),
  (7, yX7_clear, cX7_clear, 2, (some .int), true),
  (7, yX7_threads, cX7_threads, 3, (some .int), true),
  (7, yX7_place, cX7_place, 3, (some .int), true),
  (7, yX7_thread, cX7_thread, 3, (some .int), true),
  (7, yX7_row, cX7_row, 2, (some .int), true),
  (7, yX7_step, cX7_step, 2, (some .int), true)]
def zT3 : List (Nat × MethodName × ByteArray × Nat × Option FieldType × Bool) := [
  (7, yX7_undo, cX7_undo, 1, (some .int), true),
  (7, yX7_all, cX7_all, 2, (some .int), true),
  (7, yX7_worst, cX7_worst, 2, (some .int), true),
  (7, yX7_can, cX7_can, 3, (some .int), true),
  (7, yX7_slept, cX7_slept, 1, (some .int), true),
  (7, yX7_sees, cX7_sees, 3, (some .int), true),
  (7, yX7_forget, cX7_forget, 2, (some .int), true),
  (7, yX7_unseen, cX7_unseen, 2, (some .int), true),
  (7, yX7_keep, cX7_keep, 2, (some .int), true),
  (7, yX7_back, cX7_back, 2, (some .int), true),
  (7, yX7_count, cX7_count, 2, (some .int), true),
  (7, yX7_isTold, cX7_isTold, 2, (some .boolean), true),
  (7, yX7_isPlace, cX7_isPlace, 1, (some .boolean), true),
  (7, yX7_isThread, cX7_isThread, 1, (some .boolean), true),
  (8, yX8_init, cX8_init, 1, none, false),
  (8, yX8_in, cX8_in, 6, (some .boolean), true),
  (8, yX8_isPlace, cX8_isPlace, 1, (some .boolean), true),
  (8, yX8_isThread, cX8_isThread, 2, (some .boolean), true),
  (8, yX8_packed, cX8_packed, 5, (some .long), true),
  (8, yX8_open, cX8_open, 7, none, true),
  (8, yX8_begin, cX8_begin, 2, none, true),
  (8, yX8_goOn, cX8_goOn, 2, none, true),
  (8, yX8_comeToRow, cX8_comeToRow, 4, none, true),
  (8, yX8_wakeFrom, cX8_wakeFrom, 4, none, true),
  (8, yX8_layRanks, cX8_layRanks, 5, none, true),
  (8, yX8_handOn, cX8_handOn, 5, (some .boolean), true),
  (8, yX8_wake, cX8_wake, 5, none, true),
  (8, yX8_moveOn, cX8_moveOn, 4, none, true),
  (8, yX8_leadsTo, cX8_leadsTo, 6, (some .boolean), true),
  (8, yX8_lock, cX8_lock, 3, none, true),
  (8, yX8_die, cX8_die, 4, none, true),
  (8, yX8_act, cX8_act, 6, none, true),
  (8, yX8_type, cX8_type, 2, (some .int), true),
  (8, yX8_clear, cX8_clear, 2, (some .int), true),
  (8, yX8_next, cX8_next, 1, none, true),
  (8, yX8_faults, cX8_faults, 1, (some .boolean), true),
  (8, yX8_takesNumber, cX8_takesNumber, 3, (some .boolean), true),
  (8, yX8_takesEnd, cX8_takesEnd, 1, (some .boolean), true),
  (8, yX8_isOp, cX8_isOp, 1, (some .boolean), true),
  (8, yX8_takesOp, cX8_takesOp, 5, (some .boolean), true)]
def zT4 : List (Nat × MethodName × ByteArray × Nat × Option FieldType × Bool) := [
  (8, yX8_takesThread, cX8_takesThread, 2, (some .boolean), true),
  (8, yX8_takesItem, cX8_takesItem, 3, (some .boolean), true),
  (8, yX8_threads, cX8_threads, 3, (some .int), true),
  (8, yX8_place, cX8_place, 5, (some .int), true),
  (8, yX8_thread, cX8_thread, 4, (some .int), true),
  (8, yX8_row, cX8_row, 2, (some .int), true),
  (8, yX8_step, cX8_step, 3, (some .int), true),
  (8, yX8_undo, cX8_undo, 1, (some .int), true),
  (8, yX8_isEnd, cX8_isEnd, 3, (some .boolean), true),
  (8, yX8_isStuck, cX8_isStuck, 3, (some .boolean), true),
  (8, yX8_come, cX8_come, 8, none, true),
  (8, yX8_explores, cX8_explores, 6, (some .boolean), true),
  (8, yX8_isSeenSo, cX8_isSeenSo, 3, (some .boolean), true),
  (8, yX8_countEnd, cX8_countEnd, 5, none, true),
  (8, yX8_counts, cX8_counts, 5, (some .boolean), true),
  (8, yX8_all, cX8_all, 2, (some .int), true),
  (8, yX8_worst, cX8_worst, 3, (some .int), true),
  (8, yX8_can, cX8_can, 3, (some .int), true),
  (8, yX8_slept, cX8_slept, 1, (some .int), true),
  (8, yX8_sees, cX8_sees, 3, (some .int), true),
  (8, yX8_forget, cX8_forget, 2, (some .int), true),
  (8, yX8_unseen, cX8_unseen, 2, (some .int), true),
  (8, yX8_keep, cX8_keep, 2, (some .int), true),
  (8, yX8_back, cX8_back, 2, (some .int), true),
  (8, yX8_rowLength, cX8_rowLength, 3, (some .int), true),
  (8, yX8_count, cX8_count, 2, (some .int), true)]
def zT : List (Nat × MethodName × ByteArray × Nat × Option FieldType × Bool) := zT1 ++ (zT2 ++ (zT3 ++ (zT4)))
def zI (m : Nat) : Nat × MethodName × ByteArray × Nat × Option FieldType × Bool := zT.getD m (9, yL_law, cL_law, 4, some .boolean, true)
def zcn (m : Nat) : Nat := (zI m).1
def zyn (m : Nat) : MethodName := (zI m).2.1
def zby (m : Nat) : ByteArray := (zI m).2.2.1
def zmx (m : Nat) : Nat := (zI m).2.2.2.1
def zrt (m : Nat) : Option FieldType := (zI m).2.2.2.2.1
def zlm (m : Nat) : Bool := (zI m).2.2.2.2.2
/-- fields by class and pool entry: class and place of the field -/
def zFL (c : Nat) : List (Nat × Nat × Nat) := match c with
  | 0 => [(14, 0, 0), (20, 0, 1), (24, 0, 2)]
  | 1 => [(9, 1, 0), (15, 1, 1), (18, 1, 2), (22, 1, 3), (82, 6, 0), (89, 6, 6), (95, 6, 1)]
  | 2 => [(9, 2, 0), (15, 2, 1), (18, 2, 2), (21, 2, 3), (24, 2, 4), (27, 2, 5), (30, 2, 6), (33, 2, 7), (36, 2, 8), (39, 2, 9), (43, 2, 10), (46, 6, 0), (49, 6, 2), (68, 6, 1)]
  | 3 => [(9, 3, 0), (15, 3, 1), (19, 3, 2), (25, 3, 3), (29, 3, 4), (32, 3, 5), (35, 3, 6), (38, 3, 7), (42, 3, 8), (45, 3, 9), (49, 3, 10), (52, 3, 11), (55, 3, 12), (58, 3, 13), (61, 3, 14), (83, 2, 4), (100, 2, 1), (119, 2, 0)]
  | 4 => [(13, 4, 0), (19, 4, 1), (23, 4, 2), (33, 2, 10)]
  | 5 => [(9, 5, 0), (15, 5, 1), (18, 5, 2), (26, 2, 0)]
  | 6 => [(9, 6, 0), (15, 6, 1), (18, 6, 2), (21, 6, 3), (24, 6, 4), (27, 6, 5), (30, 6, 6)]
  | 7 => [(9, 7, 0), (13, 7, 1), (20, 7, 2), (24, 7, 3), (30, 7, 4), (37, 7, 5), (44, 7, 6), (53, 7, 7), (60, 7, 8), (67, 7, 9), (83, 5, 2), (86, 3, 7), (94, 2, 0), (97, 2, 1), (100, 2, 2), (110, 2, 3), (113, 2, 4), (116, 2, 5), (119, 6, 1), (126, 2, 6), (129, 2, 9), (132, 2, 7), (143, 0, 2), (151, 3, 9), (152, 3, 10), (155, 3, 11), (158, 3, 12), (165, 3, 13), (171, 3, 5), (174, 3, 6), (177, 3, 14), (192, 6, 6), (199, 2, 10)]
  | 8 => [(7, 8, 0), (13, 8, 2), (16, 8, 3), (19, 8, 4), (22, 8, 5), (25, 8, 7), (28, 8, 8), (31, 8, 16), (34, 8, 17), (37, 8, 18), (40, 8, 19), (43, 8, 20), (47, 8, 21), (50, 8, 23), (53, 8, 24), (56, 8, 25), (59, 8, 26), (62, 8, 27), (65, 8, 33), (68, 8, 34), (71, 8, 38), (74, 8, 40), (77, 8, 41), (80, 8, 42), (93, 8, 1), (97, 8, 6), (140, 8, 9), (143, 8, 10), (146, 8, 11), (149, 8, 12), (152, 8, 13), (159, 8, 14), (172, 8, 15), (190, 8, 22), (193, 8, 39), (220, 8, 28), (233, 8, 29), (236, 8, 30), (239, 8, 31), (242, 8, 32), (245, 8, 36), (248, 8, 37), (251, 8, 35)]
  | _ => []
/-- calls by class and pool entry: method, kind (0 virtual, 1 static, 2 special; 10, 11, 12: of a nest mate; 20 Object.<init>, 21 max, 22 min, 23 indexOf), the arguments without a receiver -/
def zML (c : Nat) : List (Nat × Nat × Nat × Nat) := match c with
  | 0 => [(3, 0, 20, 0), (11, 57, 2, 1), (27, 60, 0, 2), (31, 61, 0, 2)]
  | 1 => [(3, 0, 20, 0), (25, 0, 22, 2), (31, 6, 0, 2), (35, 66, 0, 0), (40, 9, 0, 0), (44, 11, 0, 1), (48, 10, 0, 0), (51, 7, 1, 1), (55, 8, 0, 2), (61, 0, 23, 1), (66, 12, 0, 1), (69, 14, 0, 1), (72, 13, 0, 1), (75, 16, 0, 2), (78, 92, 11, 1), (85, 17, 0, 0), (92, 93, 11, 1), (98, 15, 0, 1), (105, 67, 0, 4)]
  | 2 => [(3, 0, 20, 0), (52, 22, 0, 0), (56, 28, 0, 3), (60, 26, 0, 1), (64, 93, 11, 1), (71, 92, 11, 1), (74, 0, 21, 2), (80, 69, 0, 2), (83, 70, 0, 2), (86, 68, 0, 2), (89, 38, 0, 2), (93, 30, 0, 4), (97, 31, 0, 4), (100, 32, 0, 4), (103, 33, 0, 4), (106, 34, 0, 4), (109, 35, 0, 3), (113, 37, 0, 3), (116, 44, 0, 2), (119, 42, 0, 3), (123, 41, 0, 1), (127, 43, 0, 2), (130, 40, 0, 2), (134, 36, 0, 2), (138, 27, 0, 1), (141, 39, 0, 2)]
  | 3 => [(3, 0, 20, 0), (24, 18, 12, 0), (64, 47, 0, 0), (67, 20, 0, 0), (71, 48, 0, 2), (75, 21, 0, 1), (79, 51, 0, 1), (86, 29, 0, 2), (92, 50, 0, 1), (96, 49, 0, 3), (103, 93, 11, 1), (106, 22, 0, 0), (110, 52, 0, 1), (113, 23, 0, 0), (116, 53, 0, 1), (122, 54, 0, 1), (126, 64, 0, 1)]
  | 4 => [(1, 0, 20, 0), (7, 0, 21, 2), (27, 20, 0, 0), (36, 59, 0, 1), (40, 21, 0, 1)]
  | 5 => [(3, 0, 20, 0), (22, 92, 11, 1)]
  | 6 => [(3, 0, 20, 0), (34, 93, 11, 1), (38, 71, 0, 2)]
  | 7 => [(1, 0, 20, 0), (19, 65, 12, 0), (29, 4, 12, 0), (36, 18, 12, 0), (43, 0, 12, 0), (50, 57, 2, 1), (59, 62, 12, 0), (66, 45, 12, 0), (71, 5, 0, 3), (75, 19, 0, 1), (79, 1, 0, 0), (82, 58, 0, 0), (90, 92, 1, 1), (103, 24, 0, 2), (107, 91, 0, 1), (122, 25, 0, 2), (135, 2, 0, 1), (139, 29, 0, 2), (144, 3, 0, 1), (147, 46, 0, 2), (161, 54, 0, 1), (168, 55, 0, 2), (180, 63, 0, 2), (184, 56, 0, 2), (188, 60, 0, 2), (193, 59, 0, 1), (196, 61, 0, 2), (202, 93, 1, 1)]
  | 8 => [(1, 0, 20, 0), (84, 100, 0, 0), (89, 95, 1, 3), (100, 101, 0, 1), (108, 104, 0, 0), (111, 103, 0, 1), (114, 106, 0, 2), (118, 108, 0, 2), (122, 102, 0, 2), (125, 105, 0, 1), (129, 107, 0, 2), (132, 109, 0, 2), (135, 110, 0, 1), (162, 114, 0, 0), (165, 115, 0, 0), (169, 116, 0, 2), (175, 118, 1, 1), (178, 119, 0, 1), (181, 120, 0, 0), (184, 117, 0, 0), (187, 121, 0, 0), (196, 96, 1, 1), (199, 97, 0, 1), (202, 98, 0, 0), (206, 111, 0, 1), (209, 99, 0, 1), (213, 128, 0, 0), (223, 130, 0, 3), (227, 129, 0, 0), (230, 132, 0, 0), (254, 131, 0, 0), (257, 133, 0, 1), (262, 134, 0, 0), (265, 144, 0, 0)]
  | _ => []
def zCL (c : Nat) : List (Nat × Nat) := match c with
  | 0 => [(9, 4)]
  | 1 => []
  | 2 => []
  | 3 => [(22, 2)]
  | 4 => []
  | 5 => []
  | 6 => []
  | 7 => [(17, 6), (27, 1), (34, 2), (41, 0), (48, 4), (57, 5), (64, 3)]
  | 8 => []
  | _ => []
def zKL (c : Nat) : List (Nat × Int) := match c with
  | 0 => []
  | 1 => []
  | 2 => []
  | 3 => [(90, -7046029254386353131)]
  | 4 => []
  | 5 => []
  | 6 => []
  | 7 => []
  | 8 => [(87, 2), (104, 4), (106, 6), (138, 255), (155, 48), (157, 57), (216, 6364136223846793005), (218, 8191), (260, 3)]
  | _ => []
def zSL (c : Nat) : List (Nat × Nat) := match c with
  | 0 => []
  | 1 => [(59, 0), (101, 1), (103, 2)]
  | 2 => []
  | 3 => []
  | 4 => []
  | 5 => []
  | 6 => []
  | 7 => []
  | 8 => []
  | _ => []
def zSX : List (Nat × String) := [(59, "vtrsiwbkqlux;"), (101, "siwbkqlux"), (103, "swbkq")]
def zSB : List (List Int32) := [[118, 116, 114, 115, 105, 119, 98, 107, 113, 108, 117, 120, 59], [115, 105, 119, 98, 107, 113, 108, 117, 120], [115, 119, 98, 107, 113]]
def zSC : List (List Int) := [[118, 116, 114, 115, 105, 119, 98, 107, 113, 108, 117, 120, 59], [115, 105, 119, 98, 107, 113, 108, 117, 120], [115, 119, 98, 107, 113]]
def zSN : List Nat := [13, 9, 5]
