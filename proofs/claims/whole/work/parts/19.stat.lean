def K_X0_init : MK := ("BoundCode$Analyser", cX0_init, 2, none, "<init>", [], 2, 41)
def K_X0_analyseFrom : MK := ("BoundCode$Analyser", cX0_analyseFrom, 2, (some .int), "analyseFrom", [], 5, 125)
def K_X0_answer : MK := ("BoundCode$Analyser", cX0_answer, 3, (some .int), "answer", [], 0, 0)
def K_X0_boundOf : MK := ("BoundCode$Analyser", cX0_boundOf, 5, (some .long), "boundOf", [], 2, 41)
def K_X0_followCalls : MK := ("BoundCode$Analyser", cX0_followCalls, 3, none, "followCalls", [], 4, 87)
def K_X0_callsOf : MK := ("BoundCode$Analyser", cX0_callsOf, 4, (some .int), "callsOf", [], 3, 64)
def K_X0_faultyOnes : MK := ("BoundCode$Analyser", cX0_faultyOnes, 4, (some .int), "faultyOnes", [], 1, 22)
def K_X0_circularOnes : MK := ("BoundCode$Analyser", cX0_circularOnes, 3, (some .int), "circularOnes", [], 1, 20)
def K_X0_countBounds : MK := ("BoundCode$Analyser", cX0_countBounds, 6, (some .boolean), "countBounds", [], 4, 100)
def K_X0_bit : MK := ("BoundCode$Analyser", cX0_bit, 1, (some .int), "bit", [], 0, 0)
def K_X0_isIn : MK := ("BoundCode$Analyser", cX0_isIn, 2, (some .boolean), "isIn", [], 1, 20)
def K_X1_init : MK := ("BoundCode$Bounds", cX1_init, 2, none, "<init>", [], 1, 20)
def K_X1_stackOf : MK := ("BoundCode$Bounds", cX1_stackOf, 5, (some .long), "stackOf", [], 3, 64)
def K_X1_stackOfCall : MK := ("BoundCode$Bounds", cX1_stackOfCall, 4, (some .long), "stackOfCall", [], 1, 22)
def K_X1_timeOf : MK := ("BoundCode$Bounds", cX1_timeOf, 3, (some .long), "timeOf", [], 3, 78)
def K_X1_lengthen : MK := ("BoundCode$Bounds", cX1_lengthen, 5, none, "lengthen", [], 2, 54)
def K_X1_timeOfCall : MK := ("BoundCode$Bounds", cX1_timeOfCall, 3, (some .long), "timeOfCall", [], 1, 22)
def K_X1_goTo : MK := ("BoundCode$Bounds", cX1_goTo, 5, none, "goTo", [], 1, 23)
def K_X1_goThrough : MK := ("BoundCode$Bounds", cX1_goThrough, 12, none, "goThrough", [], 1, 23)
def K_X1_plus : MK := ("BoundCode$Bounds", cX1_plus, 4, (some .long), "plus", [], 0, 0)
def K_X1_repeated : MK := ("BoundCode$Bounds", cX1_repeated, 4, (some .long), "repeated", [], 0, 0)
def K_X1_greater : MK := ("BoundCode$Bounds", cX1_greater, 4, (some .long), "greater", [], 0, 0)
def K_X2_init : MK := ("BoundCode$Checker", cX2_init, 2, none, "<init>", [], 1, 20)
def K_X2_refresh : MK := ("BoundCode$Checker", cX2_refresh, 3, none, "refresh", [], 5, 117)
def K_X2_inspect : MK := ("BoundCode$Checker", cX2_inspect, 2, none, "inspect", [], 4, 96)
def K_X2_pairLoops : MK := ("BoundCode$Checker", cX2_pairLoops, 4, none, "pairLoops", [], 0, 0)
def K_X2_findFaultOfForm : MK := ("BoundCode$Checker", cX2_findFaultOfForm, 4, none, "findFaultOfForm", [], 3, 70)
def K_X2_faultOfForm : MK := ("BoundCode$Checker", cX2_faultOfForm, 5, (some .int), "faultOfForm", [], 2, 46)
def K_X2_hasForm : MK := ("BoundCode$Checker", cX2_hasForm, 5, (some .boolean), "hasForm", [], 1, 22)
def K_X2_findHeights : MK := ("BoundCode$Checker", cX2_findHeights, 4, none, "findHeights", [], 3, 73)
def K_X2_faultOfHeight : MK := ("BoundCode$Checker", cX2_faultOfHeight, 7, (some .int), "faultOfHeight", [], 2, 47)
def K_X2_lead : MK := ("BoundCode$Checker", cX2_lead, 6, (some .int), "lead", [], 1, 22)
def K_X2_takenBy : MK := ("BoundCode$Checker", cX2_takenBy, 4, (some .int), "takenBy", [], 1, 22)
def K_X2_givenBy : MK := ("BoundCode$Checker", cX2_givenBy, 4, (some .int), "givenBy", [], 1, 22)
def K_X3_init : MK := ("BoundCode$Machine", cX3_init, 2, none, "<init>", [], 1, 20)
def K_X3_answer : MK := ("BoundCode$Machine", cX3_answer, 2, (some .long), "answer", [], 0, 0)
def K_X3_perform : MK := ("BoundCode$Machine", cX3_perform, 6, (some .int), "perform", [], 5, 119)
def K_X3_reset : MK := ("BoundCode$Machine", cX3_reset, 1, none, "reset", [], 0, 0)
def K_X3_doNext : MK := ("BoundCode$Machine", cX3_doNext, 6, (some .int), "doNext", [], 4, 94)
def K_X3_refuse : MK := ("BoundCode$Machine", cX3_refuse, 2, (some .int), "refuse", [], 1, 20)
def K_X3_enter : MK := ("BoundCode$Machine", cX3_enter, 4, none, "enter", [], 2, 45)
def K_X3_leave : MK := ("BoundCode$Machine", cX3_leave, 4, (some .int), "leave", [], 2, 45)
def K_X3_flow : MK := ("BoundCode$Machine", cX3_flow, 5, none, "flow", [], 2, 41)
def K_X3_opensLoop : MK := ("BoundCode$Machine", cX3_opensLoop, 2, (some .boolean), "opensLoop", [], 0, 0)
def K_X3_goesRound : MK := ("BoundCode$Machine", cX3_goesRound, 1, (some .boolean), "goesRound", [], 0, 0)
def K_X3_handle : MK := ("BoundCode$Machine", cX3_handle, 6, none, "handle", [], 3, 69)
def K_X3_swap : MK := ("BoundCode$Machine", cX3_swap, 5, none, "swap", [], 2, 45)
def K_X3_compute : MK := ("BoundCode$Machine", cX3_compute, 5, (some .long), "compute", [], 0, 0)
def K_X3_push : MK := ("BoundCode$Machine", cX3_push, 3, none, "push", [], 1, 23)
def K_X3_pop : MK := ("BoundCode$Machine", cX3_pop, 1, (some .long), "pop", [], 1, 21)
def K_X3_read : MK := ("BoundCode$Machine", cX3_read, 2, (some .long), "read", [], 0, 0)
def K_X3_write : MK := ("BoundCode$Machine", cX3_write, 4, none, "write", [], 0, 0)
def K_X3_countWords : MK := ("BoundCode$Machine", cX3_countWords, 1, none, "countWords", [], 1, 21)
def K_X4_init : MK := ("BoundCode$Method", cX4_init, 4, none, "<init>", [], 1, 20)
def K_X4_has : MK := ("BoundCode$Method", cX4_has, 3, (some .boolean), "has", [], 0, 0)
def K_X4_heightAt : MK := ("BoundCode$Method", cX4_heightAt, 2, (some .int), "heightAt", [], 1, 22)
def K_X4_isMet : MK := ("BoundCode$Method", cX4_isMet, 2, (some .boolean), "isMet", [], 2, 43)
def K_X4_isSound : MK := ("BoundCode$Method", cX4_isSound, 1, (some .boolean), "isSound", [], 0, 0)
def K_X4_append : MK := ("BoundCode$Method", cX4_append, 5, (some .int), "append", [], 2, 47)
def K_X4_replace : MK := ("BoundCode$Method", cX4_replace, 6, (some .int), "replace", [], 1, 22)
def K_X4_fail : MK := ("BoundCode$Method", cX4_fail, 3, none, "fail", [], 0, 0)
def K_X4_answer : MK := ("BoundCode$Method", cX4_answer, 2, (some .int), "answer", [], 0, 0)
def K_X5_init : MK := ("BoundCode$Program", cX5_init, 1, none, "<init>", [], 1, 23)
def K_X5_isFull : MK := ("BoundCode$Program", cX5_isFull, 1, (some .boolean), "isFull", [], 0, 0)
def K_X5_include : MK := ("BoundCode$Program", cX5_include, 2, (some .int), "include", [], 1, 20)
def K_X5_find : MK := ("BoundCode$Program", cX5_find, 3, (some (.object "BoundCode$Method")), "find", [], 0, 0)
def K_X5_costOf : MK := ("BoundCode$Program", cX5_costOf, 2, (some .int), "costOf", [], 1, 20)
def K_X5_price : MK := ("BoundCode$Program", cX5_price, 4, (some .int), "price", [], 2, 41)
def K_X6_init : MK := ("BoundCode", cX6_init, 1, none, "<init>", [], 3, 62)
def K_X6_method : MK := ("BoundCode", cX6_method, 4, (some .int), "method", [], 6, 90)
def K_X6_add : MK := ("BoundCode", cX6_add, 5, (some .int), "add", [], 7, 112)
def K_X6_change : MK := ("BoundCode", cX6_change, 6, (some .int), "change", [], 8, 135)
def K_X6_cost : MK := ("BoundCode", cX6_cost, 3, (some .int), "cost", [], 6, 90)
def K_X6_check : MK := ("BoundCode", cX6_check, 3, (some .int), "check", [], 7, 139)
def K_X6_place : MK := ("BoundCode", cX6_place, 1, (some .int), "place", [], 0, 0)
def K_X6_height : MK := ("BoundCode", cX6_height, 4, (some .int), "height", [], 8, 139)
def K_X6_analyse : MK := ("BoundCode", cX6_analyse, 2, (some .int), "analyse", [], 7, 146)
def K_X6_told : MK := ("BoundCode", cX6_told, 3, (some .int), "told", [], 7, 112)
def K_X6_bound : MK := ("BoundCode", cX6_bound, 3, (some .long), "bound", [], 7, 112)
def K_X6_argument : MK := ("BoundCode", cX6_argument, 3, (some .int), "argument", [], 6, 90)
def K_X6_run : MK := ("BoundCode", cX6_run, 4, (some .int), "run", [], 7, 144)
def K_X6_ran : MK := ("BoundCode", cX6_ran, 2, (some .long), "ran", [], 6, 90)
def K_X6_about : MK := ("BoundCode", cX6_about, 4, (some .int), "about", [], 7, 112)
def K_X6_known : MK := ("BoundCode", cX6_known, 3, (some (.object "BoundCode$Method")), "known", [], 6, 90)
def K_X6_knownWith : MK := ("BoundCode", cX6_knownWith, 4, (some (.object "BoundCode$Method")), "knownWith", [], 7, 112)
def K_X6_isOperation : MK := ("BoundCode", cX6_isOperation, 1, (some .boolean), "isOperation", [], 0, 0)
def K_X7_init : MK := ("BoundCodeModel", cX7_init, 2, none, "<init>", [], 1, 20)
def K_X7_thrown : MK := ("BoundCodeModel", cX7_thrown, 1, (some .int), "thrown", [], 0, 0)
def K_X7_noMethod : MK := ("BoundCodeModel", cX7_noMethod, 2, (some .boolean), "noMethod", [], 0, 0)
def K_X7_method : MK := ("BoundCodeModel", cX7_method, 4, (some .int), "method", [], 0, 0)
def K_X7_add : MK := ("BoundCodeModel", cX7_add, 5, (some .int), "add", [], 1, 21)
def K_X7_change : MK := ("BoundCodeModel", cX7_change, 7, (some .int), "change", [], 1, 21)
def K_X7_cost : MK := ("BoundCodeModel", cX7_cost, 4, (some .int), "cost", [], 0, 0)
def K_X7_fault : MK := ("BoundCodeModel", cX7_fault, 4, none, "fault", [], 0, 0)
def K_X7_brackets : MK := ("BoundCodeModel", cX7_brackets, 5, none, "brackets", [], 0, 0)
def K_X7_badArg : MK := ("BoundCodeModel", cX7_badArg, 6, (some .boolean), "badArg", [], 0, 0)
def K_X7_forms : MK := ("BoundCodeModel", cX7_forms, 5, none, "forms", [], 1, 25)
def K_X7_takes : MK := ("BoundCodeModel", cX7_takes, 3, (some .int), "takes", [], 0, 0)
def K_X7_grows : MK := ("BoundCodeModel", cX7_grows, 3, (some .int), "grows", [], 0, 0)
def K_X7_isOther : MK := ("BoundCodeModel", cX7_isOther, 4, (some .boolean), "isOther", [], 0, 0)
def K_X7_tell : MK := ("BoundCodeModel", cX7_tell, 4, none, "tell", [], 0, 0)
def K_X7_onward : MK := ("BoundCodeModel", cX7_onward, 4, (some .int), "onward", [], 0, 0)
def K_X7_heights : MK := ("BoundCodeModel", cX7_heights, 10, none, "heights", [], 1, 23)
def K_X7_examine : MK := ("BoundCodeModel", cX7_examine, 2, none, "examine", [], 2, 52)
def K_X7_examineAll : MK := ("BoundCodeModel", cX7_examineAll, 2, none, "examineAll", [], 3, 73)
def K_X7_check : MK := ("BoundCodeModel", cX7_check, 2, (some .int), "check", [], 3, 73)
def K_X7_place : MK := ("BoundCodeModel", cX7_place, 1, (some .int), "place", [], 0, 0)
def K_X7_height : MK := ("BoundCodeModel", cX7_height, 3, (some .int), "height", [], 3, 73)
def K_X7_plus : MK := ("BoundCodeModel", cX7_plus, 6, (some .long), "plus", [], 0, 0)
def K_X7_times : MK := ("BoundCodeModel", cX7_times, 4, (some .long), "times", [], 0, 0)
def K_X7_greater : MK := ("BoundCodeModel", cX7_greater, 4, (some .long), "greater", [], 0, 0)
def K_X7_reach : MK := ("BoundCodeModel", cX7_reach, 4, none, "reach", [], 1, 23)
def K_X7_region : MK := ("BoundCodeModel", cX7_region, 14, (some .long), "region", [], 2, 46)
def K_X7_boundOne : MK := ("BoundCodeModel", cX7_boundOne, 10, none, "boundOne", [], 3, 79)
def K_X7_calls : MK := ("BoundCodeModel", cX7_calls, 5, (some .boolean), "calls", [], 0, 0)
def K_X7_analyseFrom : MK := ("BoundCodeModel", cX7_analyseFrom, 6, (some .int), "analyseFrom", [], 5, 132)
def K_X7_isRound : MK := ("BoundCodeModel", cX7_isRound, 4, (some .boolean), "isRound", [], 1, 24)
def K_X7_boundAll : MK := ("BoundCodeModel", cX7_boundAll, 5, (some .int), "boundAll", [], 4, 108)
def K_X7_analyse : MK := ("BoundCodeModel", cX7_analyse, 2, (some .int), "analyse", [], 6, 157)
def K_X7_told : MK := ("BoundCodeModel", cX7_told, 3, (some .int), "told", [], 1, 21)
def K_X7_bound : MK := ("BoundCodeModel", cX7_bound, 5, (some .long), "bound", [], 1, 21)
def K_X7_argument : MK := ("BoundCodeModel", cX7_argument, 3, (some .int), "argument", [], 0, 0)
def K_X7_enter : MK := ("BoundCodeModel", cX7_enter, 3, none, "enter", [], 0, 0)
def K_X7_push : MK := ("BoundCodeModel", cX7_push, 4, none, "push", [], 0, 0)
def K_X7_take : MK := ("BoundCodeModel", cX7_take, 2, (some .long), "take", [], 0, 0)
def K_X7_work : MK := ("BoundCodeModel", cX7_work, 5, (some .long), "work", [], 0, 0)
def K_X7_call : MK := ("BoundCodeModel", cX7_call, 5, none, "call", [], 1, 22)
def K_X7_back : MK := ("BoundCodeModel", cX7_back, 4, none, "back", [], 1, 23)
def K_X7_doOne : MK := ("BoundCodeModel", cX7_doOne, 14, none, "doOne", [], 2, 46)
def K_X7_run : MK := ("BoundCodeModel", cX7_run, 7, (some .int), "run", [], 4, 94)
def K_X7_ran : MK := ("BoundCodeModel", cX7_ran, 2, (some .long), "ran", [], 0, 0)
def K_X7_about : MK := ("BoundCodeModel", cX7_about, 3, (some .int), "about", [], 1, 21)
def K_J9_max_7cf53 : MK := ("java/lang/Math", cJ9_max_7cf53, 2, (some .int), "max", [], 0, 0)
def K_J9_max_f86c9 : MK := ("java/lang/Math", cJ9_max_f86c9, 4, (some .long), "max", [], 0, 0)
def K_J7_fill_53178 : MK := ("java/util/Arrays", cJ7_fill_53178, 4, none, "fill", [], 0, 0)
def K_L_method : MK := ("BoundCodeLaw", cL_method, 6, (some .int), "method", [(0, 12, 15, 13)], 7, 113)
def K_L_add : MK := ("BoundCodeLaw", cL_add, 7, (some .int), "add", [(0, 12, 15, 19)], 8, 136)
def K_L_change : MK := ("BoundCodeLaw", cL_change, 8, (some .int), "change", [(0, 14, 17, 19)], 9, 160)
def K_L_cost : MK := ("BoundCodeLaw", cL_cost, 5, (some .int), "cost", [(0, 10, 13, 19), (0, 10, 17, 13)], 7, 112)
def K_L_check : MK := ("BoundCodeLaw", cL_check, 4, (some .int), "check", [(0, 9, 12, 19)], 8, 161)
def K_L_height : MK := ("BoundCodeLaw", cL_height, 5, (some .int), "height", [(0, 10, 13, 19)], 9, 162)
def K_L_analyse : MK := ("BoundCodeLaw", cL_analyse, 4, (some .int), "analyse", [(0, 9, 12, 19)], 8, 167)
def K_L_told : MK := ("BoundCodeLaw", cL_told, 5, (some .int), "told", [(0, 10, 13, 19)], 8, 134)
def K_L_bound : MK := ("BoundCodeLaw", cL_bound, 5, (some .int), "bound", [(0, 9, 12, 19)], 8, 134)
def K_L_argument : MK := ("BoundCodeLaw", cL_argument, 5, (some .int), "argument", [(0, 9, 12, 50)], 7, 112)
def K_L_run : MK := ("BoundCodeLaw", cL_run, 5, (some .int), "run", [(0, 10, 13, 19), (0, 10, 17, 13)], 8, 167)
def K_L_ran : MK := ("BoundCodeLaw", cL_ran, 4, (some .int), "ran", [(0, 8, 11, 19)], 7, 111)
def K_L_about : MK := ("BoundCodeLaw", cL_about, 5, (some .int), "about", [(0, 10, 13, 19)], 8, 135)
def K_L_law : MK := ("BoundCodeLaw", cL_law, 8, (some .boolean), "law", [], 10, 191)
def shp (i : Nat) : Nat × Nat := ([(0, 0), (0, 0), (0, 0), (6, 7), (5, 3), (14, 32), (11, 18), (2, 4), (11, 120), (11, 120), (11, 120), (0, 7), (1, 5), (12, 32), (12, 32), (12, 121), (12, 121), (11, 32), (3, 15), (12, 11600), (11, 800), (14, 100), (11, 100), (11, 100), (11, 100), (12, 8), (7, 41), (11, 32), (11, 32), (11, 32), (11, 32), (11, 3840), (12, 3840), (12, 18), (11, 3840), (11, 3840), (11, 3840), (11, 3840), (11, 32), (11, 32), (13, 32), (13, 32), (13, 32), (13, 32), (12, 32), (12, 32), (12, 121), (12, 120), (12, 120), (13, 1024), (12, 8), (11, 100), (11, 100), (11, 100), (12, 1600), (12, 10100), (12, 900), (12, 1)] : List (Nat × Nat)).getD i (0, 0)
def rft (i j : Nat) : Option Nat := (([[], [], [], [some 4, some 7, some 11, some 18, some 25, none, none], [some 5, some 6, none], [], [], [some 4, some 8, some 9, some 10], [], [], [], [some 4, some 12, some 17, none, none, none, none], [some 4, some 13, some 14, some 15, some 16], [], [], [], [], [], [some 4, some 19, some 20, some 21, some 22, some 23, some 24, none, none, none, none, none, none, none, none], [], [], [], [], [], [], [], [some 27, some 28, some 29, some 30, none, some 31, some 32, some 33, none, none, some 34, some 35, some 36, some 37, some 38, some 39, some 40, some 41, some 42, some 43, some 44, some 45, some 46, some 47, some 48, some 49, some 50, none, some 51, some 52, some 53, some 54, some 55, some 56, none, none, none, none, none, none, none], [], [], [], [], [], [], [], [], [], [], [], [], [], [], [], [], [], [], [], [], [], [], [], [], [], [], [], [], [], [], []] : List (List (Option Nat))).getD i []).getD j none
def St (M : AM) : Prop := 58 ≤ mN M ∧ (∀ i, 3 ≤ i → i < 58 → mS M i = shp i) ∧ ∀ i j, 3 ≤ i → i < 58 → (shp i).1 < 8 → (rft i j).isSome = true → mR M i j = rft i j
theorem St.sh {M M' : AM} (s : Sh M M') (h : St M) : St M' := ⟨by show 58 ≤ M'.1.1; rw [s.1]; exact h.1, fun i h1 h2 => by rw [s.2.1]; exact h.2.1 i h1 h2, fun i j h1 h2 h3 h4 => by rw [s.2.2 i j (by rw [h.2.1 i h1 h2]; exact h3)]; exact h.2.2 i j h1 h2 h3 h4⟩
theorem St.lv {M : AM} (h : St M) (i k : Nat) (h1 : 3 ≤ i) (h2 : i < 58) (hk : (shp i).1 = k) : Lv M i k := ⟨h1, Nat.lt_of_lt_of_le h2 h.1, by rw [h.2.1 i h1 h2]; exact hk⟩
theorem St.inb {M : AM} (h : St M) (i n : Nat) (h1 : 3 ≤ i) (h2 : i < 58) (hk : (shp i).2 = n) {x : Int32} (b : vp_in x n) : vp_in x (mS M i).2 := by rw [h.2.1 i h1 h2, hk]; exact b
def Mt (M : AM) (r : Nat) : Prop := 58 ≤ r ∧ r + 4 < mN M ∧ mS M r = (4, 11) ∧ mS M (r + 1) = (11, 120) ∧ mS M (r + 2) = (12, 120) ∧ mS M (r + 3) = (11, 120) ∧ mS M (r + 4) = (11, 120) ∧ mR M r 3 = some (r + 1) ∧ mR M r 4 = some (r + 2) ∧ mR M r 5 = some (r + 3) ∧ mR M r 6 = some (r + 4)
theorem Mt.sh {M M' : AM} {r : Nat} (s : Sh M M') (h : Mt M r) : Mt M' r := by
  obtain ⟨h1, h2, h3, h4, h5, h6, h7, h8, h9, h10, h11⟩ := h
  have hk : (mS M r).1 < 8 := by rw [h3]; decide
  exact ⟨h1, by show r + 4 < M'.1.1; rw [s.1]; exact h2, by rw [s.2.1]; exact h3, by rw [s.2.1]; exact h4, by rw [s.2.1]; exact h5, by rw [s.2.1]; exact h6, by rw [s.2.1]; exact h7, by rw [s.2.2 r 3 hk]; exact h8, by rw [s.2.2 r 4 hk]; exact h9, by rw [s.2.2 r 5 hk]; exact h10, by rw [s.2.2 r 6 hk]; exact h11⟩
theorem Mt.l0 {M : AM} {r : Nat} (h : Mt M r) : Lv M r 4 := ⟨by have := h.1; omega, by have := h.2.1; omega, by rw [h.2.2.1]⟩
theorem Mt.l1 {M : AM} {r : Nat} (h : Mt M r) : Lv M (r + 1) 11 := ⟨by have := h.1; omega, by have := h.2.1; omega, by rw [h.2.2.2.1]⟩
theorem Mt.l2 {M : AM} {r : Nat} (h : Mt M r) : Lv M (r + 2) 12 := ⟨by have := h.1; omega, by have := h.2.1; omega, by rw [h.2.2.2.2.1]⟩
theorem Mt.l3 {M : AM} {r : Nat} (h : Mt M r) : Lv M (r + 3) 11 := ⟨by have := h.1; omega, by have := h.2.1; omega, by rw [h.2.2.2.2.2.1]⟩
theorem Mt.l4 {M : AM} {r : Nat} (h : Mt M r) : Lv M (r + 4) 11 := ⟨by have := h.1; omega, by have := h.2.1; omega, by rw [h.2.2.2.2.2.2.1]⟩
theorem Mt.b1 {M : AM} {r : Nat} {x : Int32} (h : Mt M r) (b : vp_in x 120) : vp_in x (mS M (r + 1)).2 := by rw [h.2.2.2.1]; exact b
theorem Mt.b2 {M : AM} {r : Nat} {x : Int32} (h : Mt M r) (b : vp_in x 120) : vp_in x (mS M (r + 2)).2 := by rw [h.2.2.2.2.1]; exact b
theorem Mt.b3 {M : AM} {r : Nat} {x : Int32} (h : Mt M r) (b : vp_in x 120) : vp_in x (mS M (r + 3)).2 := by rw [h.2.2.2.2.2.1]; exact b
theorem Mt.b4 {M : AM} {r : Nat} {x : Int32} (h : Mt M r) (b : vp_in x 120) : vp_in x (mS M (r + 4)).2 := by rw [h.2.2.2.2.2.2.1]; exact b
theorem Mt.f3 {M : AM} {r : Nat} (h : Mt M r) : fvA 4 M r 3 = aR (some (r + 1)) := congrArg aR h.2.2.2.2.2.2.2.1
theorem Mt.f4 {M : AM} {r : Nat} (h : Mt M r) : fvA 4 M r 4 = aR (some (r + 2)) := congrArg aR h.2.2.2.2.2.2.2.2.1
theorem Mt.f5 {M : AM} {r : Nat} (h : Mt M r) : fvA 4 M r 5 = aR (some (r + 3)) := congrArg aR h.2.2.2.2.2.2.2.2.2.1
theorem Mt.f6 {M : AM} {r : Nat} (h : Mt M r) : fvA 4 M r 6 = aR (some (r + 4)) := congrArg aR h.2.2.2.2.2.2.2.2.2.2
theorem St.l3 {M : AM} (h : St M) : Lv M 3 6 := h.lv 3 6 (by decide) (by decide) rfl
theorem St.l4 {M : AM} (h : St M) : Lv M 4 5 := h.lv 4 5 (by decide) (by decide) rfl
theorem St.l5 {M : AM} (h : St M) : Lv M 5 14 := h.lv 5 14 (by decide) (by decide) rfl
theorem St.b5 {M : AM} {x : Int32} (h : St M) (b : vp_in x 32) : vp_in x (mS M 5).2 := h.inb 5 32 (by decide) (by decide) rfl b
theorem St.n5 {M : AM} (h : St M) : (mS M 5).2 = 32 := by rw [h.2.1 5 (by decide) (by decide)]; rfl
theorem St.l6 {M : AM} (h : St M) : Lv M 6 11 := h.lv 6 11 (by decide) (by decide) rfl
theorem St.b6 {M : AM} {x : Int32} (h : St M) (b : vp_in x 18) : vp_in x (mS M 6).2 := h.inb 6 18 (by decide) (by decide) rfl b
theorem St.n6 {M : AM} (h : St M) : (mS M 6).2 = 18 := by rw [h.2.1 6 (by decide) (by decide)]; rfl
theorem St.l7 {M : AM} (h : St M) : Lv M 7 2 := h.lv 7 2 (by decide) (by decide) rfl
theorem St.l8 {M : AM} (h : St M) : Lv M 8 11 := h.lv 8 11 (by decide) (by decide) rfl
theorem St.b8 {M : AM} {x : Int32} (h : St M) (b : vp_in x 120) : vp_in x (mS M 8).2 := h.inb 8 120 (by decide) (by decide) rfl b
theorem St.n8 {M : AM} (h : St M) : (mS M 8).2 = 120 := by rw [h.2.1 8 (by decide) (by decide)]; rfl
theorem St.l9 {M : AM} (h : St M) : Lv M 9 11 := h.lv 9 11 (by decide) (by decide) rfl
theorem St.b9 {M : AM} {x : Int32} (h : St M) (b : vp_in x 120) : vp_in x (mS M 9).2 := h.inb 9 120 (by decide) (by decide) rfl b
theorem St.n9 {M : AM} (h : St M) : (mS M 9).2 = 120 := by rw [h.2.1 9 (by decide) (by decide)]; rfl
theorem St.l10 {M : AM} (h : St M) : Lv M 10 11 := h.lv 10 11 (by decide) (by decide) rfl
theorem St.b10 {M : AM} {x : Int32} (h : St M) (b : vp_in x 120) : vp_in x (mS M 10).2 := h.inb 10 120 (by decide) (by decide) rfl b
theorem St.n10 {M : AM} (h : St M) : (mS M 10).2 = 120 := by rw [h.2.1 10 (by decide) (by decide)]; rfl
theorem St.l11 {M : AM} (h : St M) : Lv M 11 0 := h.lv 11 0 (by decide) (by decide) rfl
theorem St.l12 {M : AM} (h : St M) : Lv M 12 1 := h.lv 12 1 (by decide) (by decide) rfl
theorem St.l13 {M : AM} (h : St M) : Lv M 13 12 := h.lv 13 12 (by decide) (by decide) rfl
theorem St.b13 {M : AM} {x : Int32} (h : St M) (b : vp_in x 32) : vp_in x (mS M 13).2 := h.inb 13 32 (by decide) (by decide) rfl b
theorem St.n13 {M : AM} (h : St M) : (mS M 13).2 = 32 := by rw [h.2.1 13 (by decide) (by decide)]; rfl
theorem St.l14 {M : AM} (h : St M) : Lv M 14 12 := h.lv 14 12 (by decide) (by decide) rfl
theorem St.b14 {M : AM} {x : Int32} (h : St M) (b : vp_in x 32) : vp_in x (mS M 14).2 := h.inb 14 32 (by decide) (by decide) rfl b
theorem St.n14 {M : AM} (h : St M) : (mS M 14).2 = 32 := by rw [h.2.1 14 (by decide) (by decide)]; rfl
theorem St.l15 {M : AM} (h : St M) : Lv M 15 12 := h.lv 15 12 (by decide) (by decide) rfl
theorem St.b15 {M : AM} {x : Int32} (h : St M) (b : vp_in x 121) : vp_in x (mS M 15).2 := h.inb 15 121 (by decide) (by decide) rfl b
theorem St.n15 {M : AM} (h : St M) : (mS M 15).2 = 121 := by rw [h.2.1 15 (by decide) (by decide)]; rfl
theorem St.l16 {M : AM} (h : St M) : Lv M 16 12 := h.lv 16 12 (by decide) (by decide) rfl
theorem St.b16 {M : AM} {x : Int32} (h : St M) (b : vp_in x 121) : vp_in x (mS M 16).2 := h.inb 16 121 (by decide) (by decide) rfl b
theorem St.n16 {M : AM} (h : St M) : (mS M 16).2 = 121 := by rw [h.2.1 16 (by decide) (by decide)]; rfl
theorem St.l17 {M : AM} (h : St M) : Lv M 17 11 := h.lv 17 11 (by decide) (by decide) rfl
theorem St.b17 {M : AM} {x : Int32} (h : St M) (b : vp_in x 32) : vp_in x (mS M 17).2 := h.inb 17 32 (by decide) (by decide) rfl b
theorem St.n17 {M : AM} (h : St M) : (mS M 17).2 = 32 := by rw [h.2.1 17 (by decide) (by decide)]; rfl
theorem St.l18 {M : AM} (h : St M) : Lv M 18 3 := h.lv 18 3 (by decide) (by decide) rfl
theorem St.l19 {M : AM} (h : St M) : Lv M 19 12 := h.lv 19 12 (by decide) (by decide) rfl
theorem St.b19 {M : AM} {x : Int32} (h : St M) (b : vp_in x 11600) : vp_in x (mS M 19).2 := h.inb 19 11600 (by decide) (by decide) rfl b
theorem St.n19 {M : AM} (h : St M) : (mS M 19).2 = 11600 := by rw [h.2.1 19 (by decide) (by decide)]; rfl
theorem St.l20 {M : AM} (h : St M) : Lv M 20 11 := h.lv 20 11 (by decide) (by decide) rfl
theorem St.b20 {M : AM} {x : Int32} (h : St M) (b : vp_in x 800) : vp_in x (mS M 20).2 := h.inb 20 800 (by decide) (by decide) rfl b
theorem St.n20 {M : AM} (h : St M) : (mS M 20).2 = 800 := by rw [h.2.1 20 (by decide) (by decide)]; rfl
theorem St.l21 {M : AM} (h : St M) : Lv M 21 14 := h.lv 21 14 (by decide) (by decide) rfl
theorem St.b21 {M : AM} {x : Int32} (h : St M) (b : vp_in x 100) : vp_in x (mS M 21).2 := h.inb 21 100 (by decide) (by decide) rfl b
theorem St.n21 {M : AM} (h : St M) : (mS M 21).2 = 100 := by rw [h.2.1 21 (by decide) (by decide)]; rfl
theorem St.l22 {M : AM} (h : St M) : Lv M 22 11 := h.lv 22 11 (by decide) (by decide) rfl
theorem St.b22 {M : AM} {x : Int32} (h : St M) (b : vp_in x 100) : vp_in x (mS M 22).2 := h.inb 22 100 (by decide) (by decide) rfl b
theorem St.n22 {M : AM} (h : St M) : (mS M 22).2 = 100 := by rw [h.2.1 22 (by decide) (by decide)]; rfl
theorem St.l23 {M : AM} (h : St M) : Lv M 23 11 := h.lv 23 11 (by decide) (by decide) rfl
theorem St.b23 {M : AM} {x : Int32} (h : St M) (b : vp_in x 100) : vp_in x (mS M 23).2 := h.inb 23 100 (by decide) (by decide) rfl b
theorem St.n23 {M : AM} (h : St M) : (mS M 23).2 = 100 := by rw [h.2.1 23 (by decide) (by decide)]; rfl
theorem St.l24 {M : AM} (h : St M) : Lv M 24 11 := h.lv 24 11 (by decide) (by decide) rfl
theorem St.b24 {M : AM} {x : Int32} (h : St M) (b : vp_in x 100) : vp_in x (mS M 24).2 := h.inb 24 100 (by decide) (by decide) rfl b
theorem St.n24 {M : AM} (h : St M) : (mS M 24).2 = 100 := by rw [h.2.1 24 (by decide) (by decide)]; rfl
theorem St.l25 {M : AM} (h : St M) : Lv M 25 12 := h.lv 25 12 (by decide) (by decide) rfl
theorem St.b25 {M : AM} {x : Int32} (h : St M) (b : vp_in x 8) : vp_in x (mS M 25).2 := h.inb 25 8 (by decide) (by decide) rfl b
theorem St.n25 {M : AM} (h : St M) : (mS M 25).2 = 8 := by rw [h.2.1 25 (by decide) (by decide)]; rfl
theorem St.l26 {M : AM} (h : St M) : Lv M 26 7 := h.lv 26 7 (by decide) (by decide) rfl
theorem St.l27 {M : AM} (h : St M) : Lv M 27 11 := h.lv 27 11 (by decide) (by decide) rfl
theorem St.b27 {M : AM} {x : Int32} (h : St M) (b : vp_in x 32) : vp_in x (mS M 27).2 := h.inb 27 32 (by decide) (by decide) rfl b
theorem St.n27 {M : AM} (h : St M) : (mS M 27).2 = 32 := by rw [h.2.1 27 (by decide) (by decide)]; rfl
theorem St.l28 {M : AM} (h : St M) : Lv M 28 11 := h.lv 28 11 (by decide) (by decide) rfl
theorem St.b28 {M : AM} {x : Int32} (h : St M) (b : vp_in x 32) : vp_in x (mS M 28).2 := h.inb 28 32 (by decide) (by decide) rfl b
theorem St.n28 {M : AM} (h : St M) : (mS M 28).2 = 32 := by rw [h.2.1 28 (by decide) (by decide)]; rfl
theorem St.l29 {M : AM} (h : St M) : Lv M 29 11 := h.lv 29 11 (by decide) (by decide) rfl
theorem St.b29 {M : AM} {x : Int32} (h : St M) (b : vp_in x 32) : vp_in x (mS M 29).2 := h.inb 29 32 (by decide) (by decide) rfl b
theorem St.n29 {M : AM} (h : St M) : (mS M 29).2 = 32 := by rw [h.2.1 29 (by decide) (by decide)]; rfl
theorem St.l30 {M : AM} (h : St M) : Lv M 30 11 := h.lv 30 11 (by decide) (by decide) rfl
theorem St.b30 {M : AM} {x : Int32} (h : St M) (b : vp_in x 32) : vp_in x (mS M 30).2 := h.inb 30 32 (by decide) (by decide) rfl b
theorem St.n30 {M : AM} (h : St M) : (mS M 30).2 = 32 := by rw [h.2.1 30 (by decide) (by decide)]; rfl
theorem St.l31 {M : AM} (h : St M) : Lv M 31 11 := h.lv 31 11 (by decide) (by decide) rfl
theorem St.b31 {M : AM} {x : Int32} (h : St M) (b : vp_in x 3840) : vp_in x (mS M 31).2 := h.inb 31 3840 (by decide) (by decide) rfl b
theorem St.n31 {M : AM} (h : St M) : (mS M 31).2 = 3840 := by rw [h.2.1 31 (by decide) (by decide)]; rfl
theorem St.l32 {M : AM} (h : St M) : Lv M 32 12 := h.lv 32 12 (by decide) (by decide) rfl
theorem St.b32 {M : AM} {x : Int32} (h : St M) (b : vp_in x 3840) : vp_in x (mS M 32).2 := h.inb 32 3840 (by decide) (by decide) rfl b
theorem St.n32 {M : AM} (h : St M) : (mS M 32).2 = 3840 := by rw [h.2.1 32 (by decide) (by decide)]; rfl
theorem St.l33 {M : AM} (h : St M) : Lv M 33 12 := h.lv 33 12 (by decide) (by decide) rfl
theorem St.b33 {M : AM} {x : Int32} (h : St M) (b : vp_in x 18) : vp_in x (mS M 33).2 := h.inb 33 18 (by decide) (by decide) rfl b
theorem St.n33 {M : AM} (h : St M) : (mS M 33).2 = 18 := by rw [h.2.1 33 (by decide) (by decide)]; rfl
theorem St.l34 {M : AM} (h : St M) : Lv M 34 11 := h.lv 34 11 (by decide) (by decide) rfl
theorem St.b34 {M : AM} {x : Int32} (h : St M) (b : vp_in x 3840) : vp_in x (mS M 34).2 := h.inb 34 3840 (by decide) (by decide) rfl b
theorem St.n34 {M : AM} (h : St M) : (mS M 34).2 = 3840 := by rw [h.2.1 34 (by decide) (by decide)]; rfl
theorem St.l35 {M : AM} (h : St M) : Lv M 35 11 := h.lv 35 11 (by decide) (by decide) rfl
theorem St.b35 {M : AM} {x : Int32} (h : St M) (b : vp_in x 3840) : vp_in x (mS M 35).2 := h.inb 35 3840 (by decide) (by decide) rfl b
theorem St.n35 {M : AM} (h : St M) : (mS M 35).2 = 3840 := by rw [h.2.1 35 (by decide) (by decide)]; rfl
theorem St.l36 {M : AM} (h : St M) : Lv M 36 11 := h.lv 36 11 (by decide) (by decide) rfl
theorem St.b36 {M : AM} {x : Int32} (h : St M) (b : vp_in x 3840) : vp_in x (mS M 36).2 := h.inb 36 3840 (by decide) (by decide) rfl b
theorem St.n36 {M : AM} (h : St M) : (mS M 36).2 = 3840 := by rw [h.2.1 36 (by decide) (by decide)]; rfl
theorem St.l37 {M : AM} (h : St M) : Lv M 37 11 := h.lv 37 11 (by decide) (by decide) rfl
theorem St.b37 {M : AM} {x : Int32} (h : St M) (b : vp_in x 3840) : vp_in x (mS M 37).2 := h.inb 37 3840 (by decide) (by decide) rfl b
theorem St.n37 {M : AM} (h : St M) : (mS M 37).2 = 3840 := by rw [h.2.1 37 (by decide) (by decide)]; rfl
theorem St.l38 {M : AM} (h : St M) : Lv M 38 11 := h.lv 38 11 (by decide) (by decide) rfl
theorem St.b38 {M : AM} {x : Int32} (h : St M) (b : vp_in x 32) : vp_in x (mS M 38).2 := h.inb 38 32 (by decide) (by decide) rfl b
theorem St.n38 {M : AM} (h : St M) : (mS M 38).2 = 32 := by rw [h.2.1 38 (by decide) (by decide)]; rfl
theorem St.l39 {M : AM} (h : St M) : Lv M 39 11 := h.lv 39 11 (by decide) (by decide) rfl
theorem St.b39 {M : AM} {x : Int32} (h : St M) (b : vp_in x 32) : vp_in x (mS M 39).2 := h.inb 39 32 (by decide) (by decide) rfl b
theorem St.n39 {M : AM} (h : St M) : (mS M 39).2 = 32 := by rw [h.2.1 39 (by decide) (by decide)]; rfl
theorem St.l40 {M : AM} (h : St M) : Lv M 40 13 := h.lv 40 13 (by decide) (by decide) rfl
theorem St.b40 {M : AM} {x : Int32} (h : St M) (b : vp_in x 32) : vp_in x (mS M 40).2 := h.inb 40 32 (by decide) (by decide) rfl b
theorem St.n40 {M : AM} (h : St M) : (mS M 40).2 = 32 := by rw [h.2.1 40 (by decide) (by decide)]; rfl
theorem St.l41 {M : AM} (h : St M) : Lv M 41 13 := h.lv 41 13 (by decide) (by decide) rfl
theorem St.b41 {M : AM} {x : Int32} (h : St M) (b : vp_in x 32) : vp_in x (mS M 41).2 := h.inb 41 32 (by decide) (by decide) rfl b
theorem St.n41 {M : AM} (h : St M) : (mS M 41).2 = 32 := by rw [h.2.1 41 (by decide) (by decide)]; rfl
theorem St.l42 {M : AM} (h : St M) : Lv M 42 13 := h.lv 42 13 (by decide) (by decide) rfl
theorem St.b42 {M : AM} {x : Int32} (h : St M) (b : vp_in x 32) : vp_in x (mS M 42).2 := h.inb 42 32 (by decide) (by decide) rfl b
theorem St.n42 {M : AM} (h : St M) : (mS M 42).2 = 32 := by rw [h.2.1 42 (by decide) (by decide)]; rfl
theorem St.l43 {M : AM} (h : St M) : Lv M 43 13 := h.lv 43 13 (by decide) (by decide) rfl
theorem St.b43 {M : AM} {x : Int32} (h : St M) (b : vp_in x 32) : vp_in x (mS M 43).2 := h.inb 43 32 (by decide) (by decide) rfl b
theorem St.n43 {M : AM} (h : St M) : (mS M 43).2 = 32 := by rw [h.2.1 43 (by decide) (by decide)]; rfl
theorem St.l44 {M : AM} (h : St M) : Lv M 44 12 := h.lv 44 12 (by decide) (by decide) rfl
theorem St.b44 {M : AM} {x : Int32} (h : St M) (b : vp_in x 32) : vp_in x (mS M 44).2 := h.inb 44 32 (by decide) (by decide) rfl b
theorem St.n44 {M : AM} (h : St M) : (mS M 44).2 = 32 := by rw [h.2.1 44 (by decide) (by decide)]; rfl
theorem St.l45 {M : AM} (h : St M) : Lv M 45 12 := h.lv 45 12 (by decide) (by decide) rfl
theorem St.b45 {M : AM} {x : Int32} (h : St M) (b : vp_in x 32) : vp_in x (mS M 45).2 := h.inb 45 32 (by decide) (by decide) rfl b
theorem St.n45 {M : AM} (h : St M) : (mS M 45).2 = 32 := by rw [h.2.1 45 (by decide) (by decide)]; rfl
theorem St.l46 {M : AM} (h : St M) : Lv M 46 12 := h.lv 46 12 (by decide) (by decide) rfl
theorem St.b46 {M : AM} {x : Int32} (h : St M) (b : vp_in x 121) : vp_in x (mS M 46).2 := h.inb 46 121 (by decide) (by decide) rfl b
theorem St.n46 {M : AM} (h : St M) : (mS M 46).2 = 121 := by rw [h.2.1 46 (by decide) (by decide)]; rfl
theorem St.l47 {M : AM} (h : St M) : Lv M 47 12 := h.lv 47 12 (by decide) (by decide) rfl
theorem St.b47 {M : AM} {x : Int32} (h : St M) (b : vp_in x 120) : vp_in x (mS M 47).2 := h.inb 47 120 (by decide) (by decide) rfl b
theorem St.n47 {M : AM} (h : St M) : (mS M 47).2 = 120 := by rw [h.2.1 47 (by decide) (by decide)]; rfl
theorem St.l48 {M : AM} (h : St M) : Lv M 48 12 := h.lv 48 12 (by decide) (by decide) rfl
theorem St.b48 {M : AM} {x : Int32} (h : St M) (b : vp_in x 120) : vp_in x (mS M 48).2 := h.inb 48 120 (by decide) (by decide) rfl b
theorem St.n48 {M : AM} (h : St M) : (mS M 48).2 = 120 := by rw [h.2.1 48 (by decide) (by decide)]; rfl
theorem St.l49 {M : AM} (h : St M) : Lv M 49 13 := h.lv 49 13 (by decide) (by decide) rfl
theorem St.b49 {M : AM} {x : Int32} (h : St M) (b : vp_in x 1024) : vp_in x (mS M 49).2 := h.inb 49 1024 (by decide) (by decide) rfl b
theorem St.n49 {M : AM} (h : St M) : (mS M 49).2 = 1024 := by rw [h.2.1 49 (by decide) (by decide)]; rfl
theorem St.l50 {M : AM} (h : St M) : Lv M 50 12 := h.lv 50 12 (by decide) (by decide) rfl
theorem St.b50 {M : AM} {x : Int32} (h : St M) (b : vp_in x 8) : vp_in x (mS M 50).2 := h.inb 50 8 (by decide) (by decide) rfl b
theorem St.n50 {M : AM} (h : St M) : (mS M 50).2 = 8 := by rw [h.2.1 50 (by decide) (by decide)]; rfl
theorem St.l51 {M : AM} (h : St M) : Lv M 51 11 := h.lv 51 11 (by decide) (by decide) rfl
theorem St.b51 {M : AM} {x : Int32} (h : St M) (b : vp_in x 100) : vp_in x (mS M 51).2 := h.inb 51 100 (by decide) (by decide) rfl b
theorem St.n51 {M : AM} (h : St M) : (mS M 51).2 = 100 := by rw [h.2.1 51 (by decide) (by decide)]; rfl
theorem St.l52 {M : AM} (h : St M) : Lv M 52 11 := h.lv 52 11 (by decide) (by decide) rfl
theorem St.b52 {M : AM} {x : Int32} (h : St M) (b : vp_in x 100) : vp_in x (mS M 52).2 := h.inb 52 100 (by decide) (by decide) rfl b
theorem St.n52 {M : AM} (h : St M) : (mS M 52).2 = 100 := by rw [h.2.1 52 (by decide) (by decide)]; rfl
theorem St.l53 {M : AM} (h : St M) : Lv M 53 11 := h.lv 53 11 (by decide) (by decide) rfl
theorem St.b53 {M : AM} {x : Int32} (h : St M) (b : vp_in x 100) : vp_in x (mS M 53).2 := h.inb 53 100 (by decide) (by decide) rfl b
theorem St.n53 {M : AM} (h : St M) : (mS M 53).2 = 100 := by rw [h.2.1 53 (by decide) (by decide)]; rfl
theorem St.l54 {M : AM} (h : St M) : Lv M 54 12 := h.lv 54 12 (by decide) (by decide) rfl
theorem St.b54 {M : AM} {x : Int32} (h : St M) (b : vp_in x 1600) : vp_in x (mS M 54).2 := h.inb 54 1600 (by decide) (by decide) rfl b
theorem St.n54 {M : AM} (h : St M) : (mS M 54).2 = 1600 := by rw [h.2.1 54 (by decide) (by decide)]; rfl
theorem St.l55 {M : AM} (h : St M) : Lv M 55 12 := h.lv 55 12 (by decide) (by decide) rfl
theorem St.b55 {M : AM} {x : Int32} (h : St M) (b : vp_in x 10100) : vp_in x (mS M 55).2 := h.inb 55 10100 (by decide) (by decide) rfl b
theorem St.n55 {M : AM} (h : St M) : (mS M 55).2 = 10100 := by rw [h.2.1 55 (by decide) (by decide)]; rfl
theorem St.l56 {M : AM} (h : St M) : Lv M 56 12 := h.lv 56 12 (by decide) (by decide) rfl
theorem St.b56 {M : AM} {x : Int32} (h : St M) (b : vp_in x 900) : vp_in x (mS M 56).2 := h.inb 56 900 (by decide) (by decide) rfl b
theorem St.n56 {M : AM} (h : St M) : (mS M 56).2 = 900 := by rw [h.2.1 56 (by decide) (by decide)]; rfl
theorem St.l57 {M : AM} (h : St M) : Lv M 57 12 := h.lv 57 12 (by decide) (by decide) rfl
theorem St.b57 {M : AM} {x : Int32} (h : St M) (b : vp_in x 1) : vp_in x (mS M 57).2 := h.inb 57 1 (by decide) (by decide) rfl b
theorem St.n57 {M : AM} (h : St M) : (mS M 57).2 = 1 := by rw [h.2.1 57 (by decide) (by decide)]; rfl
theorem St.f3_0 {M : AM} (h : St M) : fvA 6 M 3 0 = aR (some 4) := congrArg aR (h.2.2 3 0 (by decide) (by decide) (by decide) rfl)
theorem St.f3_1 {M : AM} (h : St M) : fvA 6 M 3 1 = aR (some 7) := congrArg aR (h.2.2 3 1 (by decide) (by decide) (by decide) rfl)
theorem St.f3_2 {M : AM} (h : St M) : fvA 6 M 3 2 = aR (some 11) := congrArg aR (h.2.2 3 2 (by decide) (by decide) (by decide) rfl)
theorem St.f3_3 {M : AM} (h : St M) : fvA 6 M 3 3 = aR (some 18) := congrArg aR (h.2.2 3 3 (by decide) (by decide) (by decide) rfl)
theorem St.f3_4 {M : AM} (h : St M) : fvA 6 M 3 4 = aR (some 25) := congrArg aR (h.2.2 3 4 (by decide) (by decide) (by decide) rfl)
theorem St.f4_0 {M : AM} (h : St M) : fvA 5 M 4 0 = aR (some 5) := congrArg aR (h.2.2 4 0 (by decide) (by decide) (by decide) rfl)
theorem St.f4_1 {M : AM} (h : St M) : fvA 5 M 4 1 = aR (some 6) := congrArg aR (h.2.2 4 1 (by decide) (by decide) (by decide) rfl)
theorem St.f7_0 {M : AM} (h : St M) : fvA 2 M 7 0 = aR (some 4) := congrArg aR (h.2.2 7 0 (by decide) (by decide) (by decide) rfl)
theorem St.f7_1 {M : AM} (h : St M) : fvA 2 M 7 1 = aR (some 8) := congrArg aR (h.2.2 7 1 (by decide) (by decide) (by decide) rfl)
theorem St.f7_2 {M : AM} (h : St M) : fvA 2 M 7 2 = aR (some 9) := congrArg aR (h.2.2 7 2 (by decide) (by decide) (by decide) rfl)
theorem St.f7_3 {M : AM} (h : St M) : fvA 2 M 7 3 = aR (some 10) := congrArg aR (h.2.2 7 3 (by decide) (by decide) (by decide) rfl)
theorem St.f11_0 {M : AM} (h : St M) : fvA 0 M 11 0 = aR (some 4) := congrArg aR (h.2.2 11 0 (by decide) (by decide) (by decide) rfl)
theorem St.f11_1 {M : AM} (h : St M) : fvA 0 M 11 1 = aR (some 12) := congrArg aR (h.2.2 11 1 (by decide) (by decide) (by decide) rfl)
theorem St.f11_2 {M : AM} (h : St M) : fvA 0 M 11 2 = aR (some 17) := congrArg aR (h.2.2 11 2 (by decide) (by decide) (by decide) rfl)
theorem St.f12_0 {M : AM} (h : St M) : fvA 1 M 12 0 = aR (some 4) := congrArg aR (h.2.2 12 0 (by decide) (by decide) (by decide) rfl)
theorem St.f12_1 {M : AM} (h : St M) : fvA 1 M 12 1 = aR (some 13) := congrArg aR (h.2.2 12 1 (by decide) (by decide) (by decide) rfl)
theorem St.f12_2 {M : AM} (h : St M) : fvA 1 M 12 2 = aR (some 14) := congrArg aR (h.2.2 12 2 (by decide) (by decide) (by decide) rfl)
theorem St.f12_3 {M : AM} (h : St M) : fvA 1 M 12 3 = aR (some 15) := congrArg aR (h.2.2 12 3 (by decide) (by decide) (by decide) rfl)
theorem St.f12_4 {M : AM} (h : St M) : fvA 1 M 12 4 = aR (some 16) := congrArg aR (h.2.2 12 4 (by decide) (by decide) (by decide) rfl)
theorem St.f18_0 {M : AM} (h : St M) : fvA 3 M 18 0 = aR (some 4) := congrArg aR (h.2.2 18 0 (by decide) (by decide) (by decide) rfl)
theorem St.f18_1 {M : AM} (h : St M) : fvA 3 M 18 1 = aR (some 19) := congrArg aR (h.2.2 18 1 (by decide) (by decide) (by decide) rfl)
theorem St.f18_2 {M : AM} (h : St M) : fvA 3 M 18 2 = aR (some 20) := congrArg aR (h.2.2 18 2 (by decide) (by decide) (by decide) rfl)
theorem St.f18_3 {M : AM} (h : St M) : fvA 3 M 18 3 = aR (some 21) := congrArg aR (h.2.2 18 3 (by decide) (by decide) (by decide) rfl)
theorem St.f18_4 {M : AM} (h : St M) : fvA 3 M 18 4 = aR (some 22) := congrArg aR (h.2.2 18 4 (by decide) (by decide) (by decide) rfl)
theorem St.f18_5 {M : AM} (h : St M) : fvA 3 M 18 5 = aR (some 23) := congrArg aR (h.2.2 18 5 (by decide) (by decide) (by decide) rfl)
theorem St.f18_6 {M : AM} (h : St M) : fvA 3 M 18 6 = aR (some 24) := congrArg aR (h.2.2 18 6 (by decide) (by decide) (by decide) rfl)
theorem St.f26_0 {M : AM} (h : St M) : fvA 7 M 26 0 = aR (some 27) := congrArg aR (h.2.2 26 0 (by decide) (by decide) (by decide) rfl)
theorem St.f26_1 {M : AM} (h : St M) : fvA 7 M 26 1 = aR (some 28) := congrArg aR (h.2.2 26 1 (by decide) (by decide) (by decide) rfl)
theorem St.f26_2 {M : AM} (h : St M) : fvA 7 M 26 2 = aR (some 29) := congrArg aR (h.2.2 26 2 (by decide) (by decide) (by decide) rfl)
theorem St.f26_3 {M : AM} (h : St M) : fvA 7 M 26 3 = aR (some 30) := congrArg aR (h.2.2 26 3 (by decide) (by decide) (by decide) rfl)
theorem St.f26_5 {M : AM} (h : St M) : fvA 7 M 26 5 = aR (some 31) := congrArg aR (h.2.2 26 5 (by decide) (by decide) (by decide) rfl)
theorem St.f26_6 {M : AM} (h : St M) : fvA 7 M 26 6 = aR (some 32) := congrArg aR (h.2.2 26 6 (by decide) (by decide) (by decide) rfl)
theorem St.f26_7 {M : AM} (h : St M) : fvA 7 M 26 7 = aR (some 33) := congrArg aR (h.2.2 26 7 (by decide) (by decide) (by decide) rfl)
theorem St.f26_10 {M : AM} (h : St M) : fvA 7 M 26 10 = aR (some 34) := congrArg aR (h.2.2 26 10 (by decide) (by decide) (by decide) rfl)
theorem St.f26_11 {M : AM} (h : St M) : fvA 7 M 26 11 = aR (some 35) := congrArg aR (h.2.2 26 11 (by decide) (by decide) (by decide) rfl)
theorem St.f26_12 {M : AM} (h : St M) : fvA 7 M 26 12 = aR (some 36) := congrArg aR (h.2.2 26 12 (by decide) (by decide) (by decide) rfl)
theorem St.f26_13 {M : AM} (h : St M) : fvA 7 M 26 13 = aR (some 37) := congrArg aR (h.2.2 26 13 (by decide) (by decide) (by decide) rfl)
theorem St.f26_14 {M : AM} (h : St M) : fvA 7 M 26 14 = aR (some 38) := congrArg aR (h.2.2 26 14 (by decide) (by decide) (by decide) rfl)
theorem St.f26_15 {M : AM} (h : St M) : fvA 7 M 26 15 = aR (some 39) := congrArg aR (h.2.2 26 15 (by decide) (by decide) (by decide) rfl)
theorem St.f26_16 {M : AM} (h : St M) : fvA 7 M 26 16 = aR (some 40) := congrArg aR (h.2.2 26 16 (by decide) (by decide) (by decide) rfl)
theorem St.f26_17 {M : AM} (h : St M) : fvA 7 M 26 17 = aR (some 41) := congrArg aR (h.2.2 26 17 (by decide) (by decide) (by decide) rfl)
theorem St.f26_18 {M : AM} (h : St M) : fvA 7 M 26 18 = aR (some 42) := congrArg aR (h.2.2 26 18 (by decide) (by decide) (by decide) rfl)
theorem St.f26_19 {M : AM} (h : St M) : fvA 7 M 26 19 = aR (some 43) := congrArg aR (h.2.2 26 19 (by decide) (by decide) (by decide) rfl)
theorem St.f26_20 {M : AM} (h : St M) : fvA 7 M 26 20 = aR (some 44) := congrArg aR (h.2.2 26 20 (by decide) (by decide) (by decide) rfl)
theorem St.f26_21 {M : AM} (h : St M) : fvA 7 M 26 21 = aR (some 45) := congrArg aR (h.2.2 26 21 (by decide) (by decide) (by decide) rfl)
theorem St.f26_22 {M : AM} (h : St M) : fvA 7 M 26 22 = aR (some 46) := congrArg aR (h.2.2 26 22 (by decide) (by decide) (by decide) rfl)
theorem St.f26_23 {M : AM} (h : St M) : fvA 7 M 26 23 = aR (some 47) := congrArg aR (h.2.2 26 23 (by decide) (by decide) (by decide) rfl)
theorem St.f26_24 {M : AM} (h : St M) : fvA 7 M 26 24 = aR (some 48) := congrArg aR (h.2.2 26 24 (by decide) (by decide) (by decide) rfl)
theorem St.f26_25 {M : AM} (h : St M) : fvA 7 M 26 25 = aR (some 49) := congrArg aR (h.2.2 26 25 (by decide) (by decide) (by decide) rfl)
theorem St.f26_26 {M : AM} (h : St M) : fvA 7 M 26 26 = aR (some 50) := congrArg aR (h.2.2 26 26 (by decide) (by decide) (by decide) rfl)
theorem St.f26_28 {M : AM} (h : St M) : fvA 7 M 26 28 = aR (some 51) := congrArg aR (h.2.2 26 28 (by decide) (by decide) (by decide) rfl)
theorem St.f26_29 {M : AM} (h : St M) : fvA 7 M 26 29 = aR (some 52) := congrArg aR (h.2.2 26 29 (by decide) (by decide) (by decide) rfl)
theorem St.f26_30 {M : AM} (h : St M) : fvA 7 M 26 30 = aR (some 53) := congrArg aR (h.2.2 26 30 (by decide) (by decide) (by decide) rfl)
theorem St.f26_31 {M : AM} (h : St M) : fvA 7 M 26 31 = aR (some 54) := congrArg aR (h.2.2 26 31 (by decide) (by decide) (by decide) rfl)
theorem St.f26_32 {M : AM} (h : St M) : fvA 7 M 26 32 = aR (some 55) := congrArg aR (h.2.2 26 32 (by decide) (by decide) (by decide) rfl)
theorem St.f26_33 {M : AM} (h : St M) : fvA 7 M 26 33 = aR (some 56) := congrArg aR (h.2.2 26 33 (by decide) (by decide) (by decide) rfl)
theorem ff_0_0 : FF 0 0 "BoundCode$Analyser" "program" "LBoundCode$Program;" true := ⟨TX0, 7, KF0, by decide, rfl⟩
theorem ff_0_1 : FF 0 1 "BoundCode$Analyser" "bounds" "LBoundCode$Bounds;" true := ⟨TX0, 7, KF0, by decide, rfl⟩
theorem ff_0_2 : FF 0 2 "BoundCode$Analyser" "comesTo" "[I" true := ⟨TX0, 7, KF0, by decide, rfl⟩
theorem ff_0_3 : FF 0 3 "BoundCode$Analyser" "reached" "I" false := ⟨TX0, 7, KF0, by decide, rfl⟩
theorem ff_0_4 : FF 0 4 "BoundCode$Analyser" "faulty" "I" false := ⟨TX0, 7, KF0, by decide, rfl⟩
theorem ff_0_5 : FF 0 5 "BoundCode$Analyser" "circular" "I" false := ⟨TX0, 7, KF0, by decide, rfl⟩
theorem ff_0_6 : FF 0 6 "BoundCode$Analyser" "isBounded" "Z" false := ⟨TX0, 7, KF0, by decide, rfl⟩
theorem ff_1_0 : FF 1 0 "BoundCode$Bounds" "program" "LBoundCode$Program;" true := ⟨TX1, 5, KF1, by decide, rfl⟩
theorem ff_1_1 : FF 1 1 "BoundCode$Bounds" "stacks" "[J" true := ⟨TX1, 5, KF1, by decide, rfl⟩
theorem ff_1_2 : FF 1 2 "BoundCode$Bounds" "times" "[J" true := ⟨TX1, 5, KF1, by decide, rfl⟩
theorem ff_1_3 : FF 1 3 "BoundCode$Bounds" "toEnd" "[J" true := ⟨TX1, 5, KF1, by decide, rfl⟩
theorem ff_1_4 : FF 1 4 "BoundCode$Bounds" "toReturn" "[J" true := ⟨TX1, 5, KF1, by decide, rfl⟩
theorem ff_2_0 : FF 2 0 "BoundCode$Checker" "program" "LBoundCode$Program;" true := ⟨TX2, 4, KF2, by decide, rfl⟩
theorem ff_2_1 : FF 2 1 "BoundCode$Checker" "inside" "[I" true := ⟨TX2, 4, KF2, by decide, rfl⟩
theorem ff_2_2 : FF 2 2 "BoundCode$Checker" "depths" "[I" true := ⟨TX2, 4, KF2, by decide, rfl⟩
theorem ff_2_3 : FF 2 3 "BoundCode$Checker" "open" "[I" true := ⟨TX2, 4, KF2, by decide, rfl⟩
theorem ff_3_0 : FF 3 0 "BoundCode$Machine" "program" "LBoundCode$Program;" true := ⟨TX3, 15, KF3, by decide, rfl⟩
theorem ff_3_1 : FF 3 1 "BoundCode$Machine" "words" "[J" true := ⟨TX3, 15, KF3, by decide, rfl⟩
theorem ff_3_2 : FF 3 2 "BoundCode$Machine" "rounds" "[I" true := ⟨TX3, 15, KF3, by decide, rfl⟩
theorem ff_3_3 : FF 3 3 "BoundCode$Machine" "doing" "[LBoundCode$Method;" true := ⟨TX3, 15, KF3, by decide, rfl⟩
theorem ff_3_4 : FF 3 4 "BoundCode$Machine" "nexts" "[I" true := ⟨TX3, 15, KF3, by decide, rfl⟩
theorem ff_3_5 : FF 3 5 "BoundCode$Machine" "bases" "[I" true := ⟨TX3, 15, KF3, by decide, rfl⟩
theorem ff_3_6 : FF 3 6 "BoundCode$Machine" "loopBases" "[I" true := ⟨TX3, 15, KF3, by decide, rfl⟩
theorem ff_3_7 : FF 3 7 "BoundCode$Machine" "depth" "I" false := ⟨TX3, 15, KF3, by decide, rfl⟩
theorem ff_3_8 : FF 3 8 "BoundCode$Machine" "top" "I" false := ⟨TX3, 15, KF3, by decide, rfl⟩
theorem ff_3_9 : FF 3 9 "BoundCode$Machine" "loops" "I" false := ⟨TX3, 15, KF3, by decide, rfl⟩
theorem ff_3_10 : FF 3 10 "BoundCode$Machine" "result" "J" false := ⟨TX3, 15, KF3, by decide, rfl⟩
theorem ff_3_11 : FF 3 11 "BoundCode$Machine" "cycles" "J" false := ⟨TX3, 15, KF3, by decide, rfl⟩
theorem ff_3_12 : FF 3 12 "BoundCode$Machine" "mostWords" "I" false := ⟨TX3, 15, KF3, by decide, rfl⟩
theorem ff_3_13 : FF 3 13 "BoundCode$Machine" "done" "I" false := ⟨TX3, 15, KF3, by decide, rfl⟩
theorem ff_3_14 : FF 3 14 "BoundCode$Machine" "calls" "I" false := ⟨TX3, 15, KF3, by decide, rfl⟩
theorem ff_4_0 : FF 4 0 "BoundCode$Method" "arguments" "I" true := ⟨TX4, 11, KF4, by decide, rfl⟩
theorem ff_4_1 : FF 4 1 "BoundCode$Method" "results" "I" true := ⟨TX4, 11, KF4, by decide, rfl⟩
theorem ff_4_2 : FF 4 2 "BoundCode$Method" "locals" "I" true := ⟨TX4, 11, KF4, by decide, rfl⟩
theorem ff_4_3 : FF 4 3 "BoundCode$Method" "operations" "[I" true := ⟨TX4, 11, KF4, by decide, rfl⟩
theorem ff_4_4 : FF 4 4 "BoundCode$Method" "args" "[J" true := ⟨TX4, 11, KF4, by decide, rfl⟩
theorem ff_4_5 : FF 4 5 "BoundCode$Method" "mates" "[I" true := ⟨TX4, 11, KF4, by decide, rfl⟩
theorem ff_4_6 : FF 4 6 "BoundCode$Method" "heights" "[I" true := ⟨TX4, 11, KF4, by decide, rfl⟩
theorem ff_4_7 : FF 4 7 "BoundCode$Method" "size" "I" false := ⟨TX4, 11, KF4, by decide, rfl⟩
theorem ff_4_8 : FF 4 8 "BoundCode$Method" "fault" "I" false := ⟨TX4, 11, KF4, by decide, rfl⟩
theorem ff_4_9 : FF 4 9 "BoundCode$Method" "faultPlace" "I" false := ⟨TX4, 11, KF4, by decide, rfl⟩
theorem ff_4_10 : FF 4 10 "BoundCode$Method" "checkedAmong" "I" false := ⟨TX4, 11, KF4, by decide, rfl⟩
theorem ff_5_0 : FF 5 0 "BoundCode$Program" "methods" "[LBoundCode$Method;" true := ⟨TX5, 3, KF5, by decide, rfl⟩
theorem ff_5_1 : FF 5 1 "BoundCode$Program" "costs" "[I" true := ⟨TX5, 3, KF5, by decide, rfl⟩
theorem ff_5_2 : FF 5 2 "BoundCode$Program" "count" "I" false := ⟨TX5, 3, KF5, by decide, rfl⟩
theorem ff_6_0 : FF 6 0 "BoundCode" "program" "LBoundCode$Program;" true := ⟨TX6, 7, KF6, by decide, rfl⟩
theorem ff_6_1 : FF 6 1 "BoundCode" "checker" "LBoundCode$Checker;" true := ⟨TX6, 7, KF6, by decide, rfl⟩
theorem ff_6_2 : FF 6 2 "BoundCode" "analyser" "LBoundCode$Analyser;" true := ⟨TX6, 7, KF6, by decide, rfl⟩
theorem ff_6_3 : FF 6 3 "BoundCode" "machine" "LBoundCode$Machine;" true := ⟨TX6, 7, KF6, by decide, rfl⟩
theorem ff_6_4 : FF 6 4 "BoundCode" "given" "[J" true := ⟨TX6, 7, KF6, by decide, rfl⟩
theorem ff_6_5 : FF 6 5 "BoundCode" "amountGiven" "I" false := ⟨TX6, 7, KF6, by decide, rfl⟩
theorem ff_6_6 : FF 6 6 "BoundCode" "faultPlace" "I" false := ⟨TX6, 7, KF6, by decide, rfl⟩
theorem ff_7_0 : FF 7 0 "BoundCodeModel" "args" "[I" true := ⟨TX7, 41, KF7, by decide, rfl⟩
theorem ff_7_1 : FF 7 1 "BoundCodeModel" "results" "[I" true := ⟨TX7, 41, KF7, by decide, rfl⟩
theorem ff_7_2 : FF 7 2 "BoundCodeModel" "locals" "[I" true := ⟨TX7, 41, KF7, by decide, rfl⟩
theorem ff_7_3 : FF 7 3 "BoundCodeModel" "size" "[I" true := ⟨TX7, 41, KF7, by decide, rfl⟩
theorem ff_7_4 : FF 7 4 "BoundCodeModel" "methods" "I" false := ⟨TX7, 41, KF7, by decide, rfl⟩
theorem ff_7_5 : FF 7 5 "BoundCodeModel" "op" "[I" true := ⟨TX7, 41, KF7, by decide, rfl⟩
theorem ff_7_6 : FF 7 6 "BoundCodeModel" "arg" "[J" true := ⟨TX7, 41, KF7, by decide, rfl⟩
theorem ff_7_7 : FF 7 7 "BoundCodeModel" "costs" "[J" true := ⟨TX7, 41, KF7, by decide, rfl⟩
theorem ff_7_8 : FF 7 8 "BoundCodeModel" "place" "I" false := ⟨TX7, 41, KF7, by decide, rfl⟩
theorem ff_7_9 : FF 7 9 "BoundCodeModel" "thrown" "I" false := ⟨TX7, 41, KF7, by decide, rfl⟩
theorem ff_7_10 : FF 7 10 "BoundCodeModel" "height" "[I" true := ⟨TX7, 41, KF7, by decide, rfl⟩
theorem ff_7_11 : FF 7 11 "BoundCodeModel" "around" "[I" true := ⟨TX7, 41, KF7, by decide, rfl⟩
theorem ff_7_12 : FF 7 12 "BoundCodeModel" "partner" "[I" true := ⟨TX7, 41, KF7, by decide, rfl⟩
theorem ff_7_13 : FF 7 13 "BoundCodeModel" "deep" "[I" true := ⟨TX7, 41, KF7, by decide, rfl⟩
theorem ff_7_14 : FF 7 14 "BoundCodeModel" "faultOf" "[I" true := ⟨TX7, 41, KF7, by decide, rfl⟩
theorem ff_7_15 : FF 7 15 "BoundCodeModel" "placeOf" "[I" true := ⟨TX7, 41, KF7, by decide, rfl⟩
theorem ff_7_16 : FF 7 16 "BoundCodeModel" "reached" "[Z" true := ⟨TX7, 41, KF7, by decide, rfl⟩
theorem ff_7_17 : FF 7 17 "BoundCodeModel" "faulty" "[Z" true := ⟨TX7, 41, KF7, by decide, rfl⟩
theorem ff_7_18 : FF 7 18 "BoundCodeModel" "round" "[Z" true := ⟨TX7, 41, KF7, by decide, rfl⟩
theorem ff_7_19 : FF 7 19 "BoundCodeModel" "bounded" "[Z" true := ⟨TX7, 41, KF7, by decide, rfl⟩
theorem ff_7_20 : FF 7 20 "BoundCodeModel" "stackOf" "[J" true := ⟨TX7, 41, KF7, by decide, rfl⟩
theorem ff_7_21 : FF 7 21 "BoundCodeModel" "timeOf" "[J" true := ⟨TX7, 41, KF7, by decide, rfl⟩
theorem ff_7_22 : FF 7 22 "BoundCodeModel" "sum" "[J" true := ⟨TX7, 41, KF7, by decide, rfl⟩
theorem ff_7_23 : FF 7 23 "BoundCodeModel" "through" "[J" true := ⟨TX7, 41, KF7, by decide, rfl⟩
theorem ff_7_24 : FF 7 24 "BoundCodeModel" "leaves" "[J" true := ⟨TX7, 41, KF7, by decide, rfl⟩
theorem ff_7_25 : FF 7 25 "BoundCodeModel" "comes" "[Z" true := ⟨TX7, 41, KF7, by decide, rfl⟩
theorem ff_7_26 : FF 7 26 "BoundCodeModel" "told" "[J" true := ⟨TX7, 41, KF7, by decide, rfl⟩
theorem ff_7_27 : FF 7 27 "BoundCodeModel" "tolds" "I" false := ⟨TX7, 41, KF7, by decide, rfl⟩
theorem ff_7_28 : FF 7 28 "BoundCodeModel" "frameMethod" "[I" true := ⟨TX7, 41, KF7, by decide, rfl⟩
theorem ff_7_29 : FF 7 29 "BoundCodeModel" "frameAt" "[I" true := ⟨TX7, 41, KF7, by decide, rfl⟩
theorem ff_7_30 : FF 7 30 "BoundCodeModel" "frameHeight" "[I" true := ⟨TX7, 41, KF7, by decide, rfl⟩
theorem ff_7_31 : FF 7 31 "BoundCodeModel" "local" "[J" true := ⟨TX7, 41, KF7, by decide, rfl⟩
theorem ff_7_32 : FF 7 32 "BoundCodeModel" "word" "[J" true := ⟨TX7, 41, KF7, by decide, rfl⟩
theorem ff_7_33 : FF 7 33 "BoundCodeModel" "turns" "[J" true := ⟨TX7, 41, KF7, by decide, rfl⟩
theorem ff_7_34 : FF 7 34 "BoundCodeModel" "frames" "I" false := ⟨TX7, 41, KF7, by decide, rfl⟩
theorem ff_7_35 : FF 7 35 "BoundCodeModel" "words" "I" false := ⟨TX7, 41, KF7, by decide, rfl⟩
theorem ff_7_36 : FF 7 36 "BoundCodeModel" "most" "I" false := ⟨TX7, 41, KF7, by decide, rfl⟩
theorem ff_7_37 : FF 7 37 "BoundCodeModel" "result" "J" false := ⟨TX7, 41, KF7, by decide, rfl⟩
theorem ff_7_38 : FF 7 38 "BoundCodeModel" "cycles" "J" false := ⟨TX7, 41, KF7, by decide, rfl⟩
theorem ff_7_39 : FF 7 39 "BoundCodeModel" "done" "I" false := ⟨TX7, 41, KF7, by decide, rfl⟩
theorem ff_7_40 : FF 7 40 "BoundCodeModel" "calls" "I" false := ⟨TX7, 41, KF7, by decide, rfl⟩
theorem yk_X0_init : YK yX0_init K_X0_init := ⟨by decide +kernel, rfl, rfl, rfl, w69, w136⟩
theorem yk_X0_analyseFrom : YK yX0_analyseFrom K_X0_analyseFrom := ⟨by decide +kernel, rfl, rfl, rfl, w69, w591⟩
theorem vk_X0_analyseFrom : VK yX0_analyseFrom K_X0_analyseFrom 0 1 := ⟨yk_X0_analyseFrom, ⟨TX0, 7, KF0⟩, w589, w590, by decide, by decide, by decide +kernel⟩
theorem yk_X0_answer : YK yX0_answer K_X0_answer := ⟨by decide +kernel, rfl, rfl, rfl, w69, w683⟩
theorem vk_X0_answer : VK yX0_answer K_X0_answer 0 2 := ⟨yk_X0_answer, ⟨TX0, 7, KF0⟩, w681, w682, by decide, by decide, by decide +kernel⟩
theorem yk_X0_boundOf : YK yX0_boundOf K_X0_boundOf := ⟨by decide +kernel, rfl, rfl, rfl, w69, w695⟩
theorem vk_X0_boundOf : VK yX0_boundOf K_X0_boundOf 0 2 := ⟨yk_X0_boundOf, ⟨TX0, 7, KF0⟩, w693, w694, by decide, by decide, by decide +kernel⟩
theorem yk_X0_followCalls : YK yX0_followCalls K_X0_followCalls := ⟨by decide +kernel, rfl, rfl, rfl, w69, w595⟩
theorem vk_X0_followCalls : VK yX0_followCalls K_X0_followCalls 0 0 := ⟨yk_X0_followCalls, ⟨TX0, 7, KF0⟩, w594, w13, by decide, by decide, by decide +kernel⟩
theorem yk_X0_callsOf : YK yX0_callsOf K_X0_callsOf := ⟨by decide +kernel, rfl, rfl, rfl, w69, w600⟩
theorem vk_X0_callsOf : VK yX0_callsOf K_X0_callsOf 0 1 := ⟨yk_X0_callsOf, ⟨TX0, 7, KF0⟩, w599, w14, by decide, by decide, by decide +kernel⟩
theorem yk_X0_faultyOnes : YK yX0_faultyOnes K_X0_faultyOnes := ⟨by decide +kernel, rfl, rfl, rfl, w69, w616⟩
theorem vk_X0_faultyOnes : VK yX0_faultyOnes K_X0_faultyOnes 0 0 := ⟨yk_X0_faultyOnes, ⟨TX0, 7, KF0⟩, w615, w15, by decide, by decide, by decide +kernel⟩
theorem yk_X0_circularOnes : YK yX0_circularOnes K_X0_circularOnes := ⟨by decide +kernel, rfl, rfl, rfl, w69, w620⟩
theorem vk_X0_circularOnes : VK yX0_circularOnes K_X0_circularOnes 0 0 := ⟨yk_X0_circularOnes, ⟨TX0, 7, KF0⟩, w619, w16, by decide, by decide, by decide +kernel⟩
theorem yk_X0_countBounds : YK yX0_countBounds K_X0_countBounds := ⟨by decide +kernel, rfl, rfl, rfl, w69, w624⟩
theorem vk_X0_countBounds : VK yX0_countBounds K_X0_countBounds 0 0 := ⟨yk_X0_countBounds, ⟨TX0, 7, KF0⟩, w623, w17, by decide, by decide, by decide +kernel⟩
theorem yk_X0_bit : YK yX0_bit K_X0_bit := ⟨by decide +kernel, rfl, rfl, rfl, w69, w609⟩
theorem sk_X0_bit : SK yX0_bit K_X0_bit 1 := ⟨yk_X0_bit, w608, by decide, by decide, by decide +kernel⟩
theorem yk_X0_isIn : YK yX0_isIn K_X0_isIn := ⟨by decide +kernel, rfl, rfl, rfl, w69, w612⟩
theorem sk_X0_isIn : SK yX0_isIn K_X0_isIn 2 := ⟨yk_X0_isIn, w611, by decide, by decide, by decide +kernel⟩
theorem yk_X1_init : YK yX1_init K_X1_init := ⟨by decide +kernel, rfl, rfl, rfl, w70, w142⟩
theorem yk_X1_stackOf : YK yX1_stackOf K_X1_stackOf := ⟨by decide +kernel, rfl, rfl, rfl, w70, w628⟩
theorem vk_X1_stackOf : VK yX1_stackOf K_X1_stackOf 1 1 := ⟨yk_X1_stackOf, ⟨TX1, 5, KF1⟩, w626, w627, by decide, by decide, by decide +kernel⟩
theorem yk_X1_stackOfCall : YK yX1_stackOfCall K_X1_stackOfCall := ⟨by decide +kernel, rfl, rfl, rfl, w70, w636⟩
theorem vk_X1_stackOfCall : VK yX1_stackOfCall K_X1_stackOfCall 1 2 := ⟨yk_X1_stackOfCall, ⟨TX1, 5, KF1⟩, w635, w18, by decide, by decide, by decide +kernel⟩
theorem yk_X1_timeOf : YK yX1_timeOf K_X1_timeOf := ⟨by decide +kernel, rfl, rfl, rfl, w70, w641⟩
theorem vk_X1_timeOf : VK yX1_timeOf K_X1_timeOf 1 1 := ⟨yk_X1_timeOf, ⟨TX1, 5, KF1⟩, w639, w640, by decide, by decide, by decide +kernel⟩
theorem yk_X1_lengthen : YK yX1_lengthen K_X1_lengthen := ⟨by decide +kernel, rfl, rfl, rfl, w70, w646⟩
theorem vk_X1_lengthen : VK yX1_lengthen K_X1_lengthen 1 2 := ⟨yk_X1_lengthen, ⟨TX1, 5, KF1⟩, w645, w19, by decide, by decide, by decide +kernel⟩
theorem yk_X1_timeOfCall : YK yX1_timeOfCall K_X1_timeOfCall := ⟨by decide +kernel, rfl, rfl, rfl, w70, w670⟩
theorem vk_X1_timeOfCall : VK yX1_timeOfCall K_X1_timeOfCall 1 2 := ⟨yk_X1_timeOfCall, ⟨TX1, 5, KF1⟩, w669, w22, by decide, by decide, by decide +kernel⟩
theorem yk_X1_goTo : YK yX1_goTo K_X1_goTo := ⟨by decide +kernel, rfl, rfl, rfl, w70, w651⟩
theorem vk_X1_goTo : VK yX1_goTo K_X1_goTo 1 3 := ⟨yk_X1_goTo, ⟨TX1, 5, KF1⟩, w650, w20, by decide, by decide, by decide +kernel⟩
theorem yk_X1_goThrough : YK yX1_goThrough K_X1_goThrough := ⟨by decide +kernel, rfl, rfl, rfl, w70, w662⟩
theorem vk_X1_goThrough : VK yX1_goThrough K_X1_goThrough 1 3 := ⟨yk_X1_goThrough, ⟨TX1, 5, KF1⟩, w661, w21, by decide, by decide, by decide +kernel⟩
theorem yk_X1_plus : YK yX1_plus K_X1_plus := ⟨by decide +kernel, rfl, rfl, rfl, w70, w654⟩
theorem sk_X1_plus : SK yX1_plus K_X1_plus 2 := ⟨yk_X1_plus, w653, by decide, by decide, by decide +kernel⟩
theorem yk_X1_repeated : YK yX1_repeated K_X1_repeated := ⟨by decide +kernel, rfl, rfl, rfl, w70, w665⟩
theorem sk_X1_repeated : SK yX1_repeated K_X1_repeated 2 := ⟨yk_X1_repeated, w664, by decide, by decide, by decide +kernel⟩
theorem yk_X1_greater : YK yX1_greater K_X1_greater := ⟨by decide +kernel, rfl, rfl, rfl, w70, w658⟩
theorem sk_X1_greater : SK yX1_greater K_X1_greater 2 := ⟨yk_X1_greater, w657, by decide, by decide, by decide +kernel⟩
theorem yk_X2_init : YK yX2_init K_X2_init := ⟨by decide +kernel, rfl, rfl, rfl, w68, w117⟩
theorem yk_X2_refresh : YK yX2_refresh K_X2_refresh := ⟨by decide +kernel, rfl, rfl, rfl, w68, w509⟩
theorem vk_X2_refresh : VK yX2_refresh K_X2_refresh 2 0 := ⟨yk_X2_refresh, ⟨TX2, 4, KF2⟩, w507, w508, by decide, by decide, by decide +kernel⟩
theorem yk_X2_inspect : YK yX2_inspect K_X2_inspect := ⟨by decide +kernel, rfl, rfl, rfl, w68, w514⟩
theorem vk_X2_inspect : VK yX2_inspect K_X2_inspect 2 1 := ⟨yk_X2_inspect, ⟨TX2, 4, KF2⟩, w513, w3, by decide, by decide, by decide +kernel⟩
theorem yk_X2_pairLoops : YK yX2_pairLoops K_X2_pairLoops := ⟨by decide +kernel, rfl, rfl, rfl, w68, w522⟩
theorem vk_X2_pairLoops : VK yX2_pairLoops K_X2_pairLoops 2 1 := ⟨yk_X2_pairLoops, ⟨TX2, 4, KF2⟩, w521, w4, by decide, by decide, by decide +kernel⟩
theorem yk_X2_findFaultOfForm : YK yX2_findFaultOfForm K_X2_findFaultOfForm := ⟨by decide +kernel, rfl, rfl, rfl, w68, w526⟩
theorem vk_X2_findFaultOfForm : VK yX2_findFaultOfForm K_X2_findFaultOfForm 2 1 := ⟨yk_X2_findFaultOfForm, ⟨TX2, 4, KF2⟩, w525, w5, by decide, by decide, by decide +kernel⟩
theorem yk_X2_faultOfForm : YK yX2_faultOfForm K_X2_faultOfForm := ⟨by decide +kernel, rfl, rfl, rfl, w68, w530⟩
theorem vk_X2_faultOfForm : VK yX2_faultOfForm K_X2_faultOfForm 2 2 := ⟨yk_X2_faultOfForm, ⟨TX2, 4, KF2⟩, w529, w6, by decide, by decide, by decide +kernel⟩
theorem yk_X2_hasForm : YK yX2_hasForm K_X2_hasForm := ⟨by decide +kernel, rfl, rfl, rfl, w68, w534⟩
theorem vk_X2_hasForm : VK yX2_hasForm K_X2_hasForm 2 3 := ⟨yk_X2_hasForm, ⟨TX2, 4, KF2⟩, w533, w7, by decide, by decide, by decide +kernel⟩
theorem yk_X2_findHeights : YK yX2_findHeights K_X2_findHeights := ⟨by decide +kernel, rfl, rfl, rfl, w68, w546⟩
theorem vk_X2_findHeights : VK yX2_findHeights K_X2_findHeights 2 1 := ⟨yk_X2_findHeights, ⟨TX2, 4, KF2⟩, w545, w8, by decide, by decide, by decide +kernel⟩
theorem yk_X2_faultOfHeight : YK yX2_faultOfHeight K_X2_faultOfHeight := ⟨by decide +kernel, rfl, rfl, rfl, w68, w551⟩
theorem vk_X2_faultOfHeight : VK yX2_faultOfHeight K_X2_faultOfHeight 2 2 := ⟨yk_X2_faultOfHeight, ⟨TX2, 4, KF2⟩, w550, w9, by decide, by decide, by decide +kernel⟩
theorem yk_X2_lead : YK yX2_lead K_X2_lead := ⟨by decide +kernel, rfl, rfl, rfl, w68, w567⟩
theorem vk_X2_lead : VK yX2_lead K_X2_lead 2 3 := ⟨yk_X2_lead, ⟨TX2, 4, KF2⟩, w566, w12, by decide, by decide, by decide +kernel⟩
theorem yk_X2_takenBy : YK yX2_takenBy K_X2_takenBy := ⟨by decide +kernel, rfl, rfl, rfl, w68, w555⟩
theorem vk_X2_takenBy : VK yX2_takenBy K_X2_takenBy 2 2 := ⟨yk_X2_takenBy, ⟨TX2, 4, KF2⟩, w554, w10, by decide, by decide, by decide +kernel⟩
theorem yk_X2_givenBy : YK yX2_givenBy K_X2_givenBy := ⟨by decide +kernel, rfl, rfl, rfl, w68, w561⟩
theorem vk_X2_givenBy : VK yX2_givenBy K_X2_givenBy 2 2 := ⟨yk_X2_givenBy, ⟨TX2, 4, KF2⟩, w560, w11, by decide, by decide, by decide +kernel⟩
theorem yk_X3_init : YK yX3_init K_X3_init := ⟨by decide +kernel, rfl, rfl, rfl, w71, w189⟩
theorem yk_X3_answer : YK yX3_answer K_X3_answer := ⟨by decide +kernel, rfl, rfl, rfl, w71, w816⟩
theorem vk_X3_answer : VK yX3_answer K_X3_answer 3 1 := ⟨yk_X3_answer, ⟨TX3, 15, KF3⟩, w814, w815, by decide, by decide, by decide +kernel⟩
theorem yk_X3_perform : YK yX3_perform K_X3_perform := ⟨by decide +kernel, rfl, rfl, rfl, w71, w734⟩
theorem vk_X3_perform : VK yX3_perform K_X3_perform 3 3 := ⟨yk_X3_perform, ⟨TX3, 15, KF3⟩, w732, w733, by decide, by decide, by decide +kernel⟩
theorem yk_X3_reset : YK yX3_reset K_X3_reset := ⟨by decide +kernel, rfl, rfl, rfl, w71, w738⟩
theorem vk_X3_reset : VK yX3_reset K_X3_reset 3 0 := ⟨yk_X3_reset, ⟨TX3, 15, KF3⟩, w737, w23, by decide, by decide, by decide +kernel⟩
theorem yk_X3_doNext : YK yX3_doNext K_X3_doNext := ⟨by decide +kernel, rfl, rfl, rfl, w71, w762⟩
theorem vk_X3_doNext : VK yX3_doNext K_X3_doNext 3 0 := ⟨yk_X3_doNext, ⟨TX3, 15, KF3⟩, w761, w28, by decide, by decide, by decide +kernel⟩
theorem yk_X3_refuse : YK yX3_refuse K_X3_refuse := ⟨by decide +kernel, rfl, rfl, rfl, w71, w768⟩
theorem vk_X3_refuse : VK yX3_refuse K_X3_refuse 3 1 := ⟨yk_X3_refuse, ⟨TX3, 15, KF3⟩, w767, w29, by decide, by decide, by decide +kernel⟩
theorem yk_X3_enter : YK yX3_enter K_X3_enter := ⟨by decide +kernel, rfl, rfl, rfl, w71, w751⟩
theorem vk_X3_enter : VK yX3_enter K_X3_enter 3 2 := ⟨yk_X3_enter, ⟨TX3, 15, KF3⟩, w750, w26, by decide, by decide, by decide +kernel⟩
theorem yk_X3_leave : YK yX3_leave K_X3_leave := ⟨by decide +kernel, rfl, rfl, rfl, w71, w773⟩
theorem vk_X3_leave : VK yX3_leave K_X3_leave 3 1 := ⟨yk_X3_leave, ⟨TX3, 15, KF3⟩, w772, w30, by decide, by decide, by decide +kernel⟩
theorem yk_X3_flow : YK yX3_flow K_X3_flow := ⟨by decide +kernel, rfl, rfl, rfl, w71, w785⟩
theorem vk_X3_flow : VK yX3_flow K_X3_flow 3 2 := ⟨yk_X3_flow, ⟨TX3, 15, KF3⟩, w784, w33, by decide, by decide, by decide +kernel⟩
theorem yk_X3_opensLoop : YK yX3_opensLoop K_X3_opensLoop := ⟨by decide +kernel, rfl, rfl, rfl, w71, w789⟩
theorem vk_X3_opensLoop : VK yX3_opensLoop K_X3_opensLoop 3 1 := ⟨yk_X3_opensLoop, ⟨TX3, 15, KF3⟩, w788, w34, by decide, by decide, by decide +kernel⟩
theorem yk_X3_goesRound : YK yX3_goesRound K_X3_goesRound := ⟨by decide +kernel, rfl, rfl, rfl, w71, w793⟩
theorem vk_X3_goesRound : VK yX3_goesRound K_X3_goesRound 3 0 := ⟨yk_X3_goesRound, ⟨TX3, 15, KF3⟩, w792, w35, by decide, by decide, by decide +kernel⟩
theorem yk_X3_handle : YK yX3_handle K_X3_handle := ⟨by decide +kernel, rfl, rfl, rfl, w71, w797⟩
theorem vk_X3_handle : VK yX3_handle K_X3_handle 3 2 := ⟨yk_X3_handle, ⟨TX3, 15, KF3⟩, w796, w36, by decide, by decide, by decide +kernel⟩
theorem yk_X3_swap : YK yX3_swap K_X3_swap := ⟨by decide +kernel, rfl, rfl, rfl, w71, w801⟩
theorem vk_X3_swap : VK yX3_swap K_X3_swap 3 0 := ⟨yk_X3_swap, ⟨TX3, 15, KF3⟩, w800, w37, by decide, by decide, by decide +kernel⟩
theorem yk_X3_compute : YK yX3_compute K_X3_compute := ⟨by decide +kernel, rfl, rfl, rfl, w71, w804⟩
theorem sk_X3_compute : SK yX3_compute K_X3_compute 3 := ⟨yk_X3_compute, w803, by decide, by decide, by decide +kernel⟩
theorem yk_X3_push : YK yX3_push K_X3_push := ⟨by decide +kernel, rfl, rfl, rfl, w71, w743⟩
theorem vk_X3_push : VK yX3_push K_X3_push 3 1 := ⟨yk_X3_push, ⟨TX3, 15, KF3⟩, w742, w24, by decide, by decide, by decide +kernel⟩
theorem yk_X3_pop : YK yX3_pop K_X3_pop := ⟨by decide +kernel, rfl, rfl, rfl, w71, w777⟩
theorem vk_X3_pop : VK yX3_pop K_X3_pop 3 0 := ⟨yk_X3_pop, ⟨TX3, 15, KF3⟩, w776, w31, by decide, by decide, by decide +kernel⟩
theorem yk_X3_read : YK yX3_read K_X3_read := ⟨by decide +kernel, rfl, rfl, rfl, w71, w781⟩
theorem vk_X3_read : VK yX3_read K_X3_read 3 1 := ⟨yk_X3_read, ⟨TX3, 15, KF3⟩, w780, w32, by decide, by decide, by decide +kernel⟩
theorem yk_X3_write : YK yX3_write K_X3_write := ⟨by decide +kernel, rfl, rfl, rfl, w71, w747⟩
theorem vk_X3_write : VK yX3_write K_X3_write 3 2 := ⟨yk_X3_write, ⟨TX3, 15, KF3⟩, w746, w25, by decide, by decide, by decide +kernel⟩
theorem yk_X3_countWords : YK yX3_countWords K_X3_countWords := ⟨by decide +kernel, rfl, rfl, rfl, w71, w755⟩
theorem vk_X3_countWords : VK yX3_countWords K_X3_countWords 3 0 := ⟨yk_X3_countWords, ⟨TX3, 15, KF3⟩, w754, w27, by decide, by decide, by decide +kernel⟩
theorem yk_X4_init : YK yX4_init K_X4_init := ⟨by decide +kernel, rfl, rfl, rfl, w77, w350⟩
theorem yk_X4_has : YK yX4_has K_X4_has := ⟨by decide +kernel, rfl, rfl, rfl, w77, w462⟩
theorem vk_X4_has : VK yX4_has K_X4_has 4 1 := ⟨yk_X4_has, ⟨TX4, 11, KF4⟩, w460, w461, by decide, by decide, by decide +kernel⟩
theorem yk_X4_heightAt : YK yX4_heightAt K_X4_heightAt := ⟨by decide +kernel, rfl, rfl, rfl, w77, w571⟩
theorem vk_X4_heightAt : VK yX4_heightAt K_X4_heightAt 4 1 := ⟨yk_X4_heightAt, ⟨TX4, 11, KF4⟩, w569, w570, by decide, by decide, by decide +kernel⟩
theorem yk_X4_isMet : YK yX4_isMet K_X4_isMet := ⟨by decide +kernel, rfl, rfl, rfl, w77, w605⟩
theorem vk_X4_isMet : VK yX4_isMet K_X4_isMet 4 1 := ⟨yk_X4_isMet, ⟨TX4, 11, KF4⟩, w603, w604, by decide, by decide, by decide +kernel⟩
theorem yk_X4_isSound : YK yX4_isSound K_X4_isSound := ⟨by decide +kernel, rfl, rfl, rfl, w77, w542⟩
theorem vk_X4_isSound : VK yX4_isSound K_X4_isSound 4 0 := ⟨yk_X4_isSound, ⟨TX4, 11, KF4⟩, w540, w541, by decide, by decide, by decide +kernel⟩
theorem yk_X4_append : YK yX4_append K_X4_append := ⟨by decide +kernel, rfl, rfl, rfl, w77, w454⟩
theorem vk_X4_append : VK yX4_append K_X4_append 4 2 := ⟨yk_X4_append, ⟨TX4, 11, KF4⟩, w452, w453, by decide, by decide, by decide +kernel⟩
theorem yk_X4_replace : YK yX4_replace K_X4_replace := ⟨by decide +kernel, rfl, rfl, rfl, w77, w458⟩
theorem vk_X4_replace : VK yX4_replace K_X4_replace 4 3 := ⟨yk_X4_replace, ⟨TX4, 11, KF4⟩, w456, w457, by decide, by decide, by decide +kernel⟩
theorem yk_X4_fail : YK yX4_fail K_X4_fail := ⟨by decide +kernel, rfl, rfl, rfl, w77, w518⟩
theorem vk_X4_fail : VK yX4_fail K_X4_fail 4 2 := ⟨yk_X4_fail, ⟨TX4, 11, KF4⟩, w516, w517, by decide, by decide, by decide +kernel⟩
theorem yk_X4_answer : YK yX4_answer K_X4_answer := ⟨by decide +kernel, rfl, rfl, rfl, w77, w828⟩
theorem vk_X4_answer : VK yX4_answer K_X4_answer 4 1 := ⟨yk_X4_answer, ⟨TX4, 11, KF4⟩, w826, w827, by decide, by decide, by decide +kernel⟩
theorem yk_X5_init : YK yX5_init K_X5_init := ⟨by decide +kernel, rfl, rfl, rfl, w66, w93⟩
theorem yk_X5_isFull : YK yX5_isFull K_X5_isFull := ⟨by decide +kernel, rfl, rfl, rfl, w66, w345⟩
theorem vk_X5_isFull : VK yX5_isFull K_X5_isFull 5 0 := ⟨yk_X5_isFull, ⟨TX5, 3, KF5⟩, w343, w344, by decide, by decide, by decide +kernel⟩
theorem yk_X5_include : YK yX5_include K_X5_include := ⟨by decide +kernel, rfl, rfl, rfl, w66, w417⟩
theorem vk_X5_include : VK yX5_include K_X5_include 5 1 := ⟨yk_X5_include, ⟨TX5, 3, KF5⟩, w415, w416, by decide, by decide, by decide +kernel⟩
theorem yk_X5_find : YK yX5_find K_X5_find := ⟨by decide +kernel, rfl, rfl, rfl, w66, w434⟩
theorem vk_X5_find : VK yX5_find K_X5_find 5 1 := ⟨yk_X5_find, ⟨TX5, 3, KF5⟩, w432, w433, by decide, by decide, by decide +kernel⟩
theorem yk_X5_costOf : YK yX5_costOf K_X5_costOf := ⟨by decide +kernel, rfl, rfl, rfl, w66, w497⟩
theorem vk_X5_costOf : VK yX5_costOf K_X5_costOf 5 1 := ⟨yk_X5_costOf, ⟨TX5, 3, KF5⟩, w495, w496, by decide, by decide, by decide +kernel⟩
theorem yk_X5_price : YK yX5_price K_X5_price := ⟨by decide +kernel, rfl, rfl, rfl, w66, w493⟩
theorem vk_X5_price : VK yX5_price K_X5_price 5 2 := ⟨yk_X5_price, ⟨TX5, 3, KF5⟩, w491, w492, by decide, by decide, by decide +kernel⟩
theorem yk_X6_init : YK yX6_init K_X6_init := ⟨by decide +kernel, rfl, rfl, rfl, w65, w85⟩
theorem yk_X6_method : YK yX6_method K_X6_method := ⟨by decide +kernel, rfl, rfl, rfl, w65, w271⟩
theorem vk_X6_method : VK yX6_method K_X6_method 6 3 := ⟨yk_X6_method, ⟨TX6, 7, KF6⟩, w269, w270, by decide, by decide, by decide +kernel⟩
theorem yk_X6_add : YK yX6_add K_X6_add := ⟨by decide +kernel, rfl, rfl, rfl, w65, w426⟩
theorem vk_X6_add : VK yX6_add K_X6_add 6 3 := ⟨yk_X6_add, ⟨TX6, 7, KF6⟩, w424, w425, by decide, by decide, by decide +kernel⟩
theorem yk_X6_change : YK yX6_change K_X6_change := ⟨by decide +kernel, rfl, rfl, rfl, w65, w469⟩
theorem vk_X6_change : VK yX6_change K_X6_change 6 4 := ⟨yk_X6_change, ⟨TX6, 7, KF6⟩, w467, w468, by decide, by decide, by decide +kernel⟩
theorem yk_X6_cost : YK yX6_cost K_X6_cost := ⟨by decide +kernel, rfl, rfl, rfl, w65, w483⟩
theorem vk_X6_cost : VK yX6_cost K_X6_cost 6 2 := ⟨yk_X6_cost, ⟨TX6, 7, KF6⟩, w481, w482, by decide, by decide, by decide +kernel⟩
theorem yk_X6_check : YK yX6_check K_X6_check := ⟨by decide +kernel, rfl, rfl, rfl, w65, w505⟩
theorem vk_X6_check : VK yX6_check K_X6_check 6 1 := ⟨yk_X6_check, ⟨TX6, 7, KF6⟩, w503, w504, by decide, by decide, by decide +kernel⟩
theorem yk_X6_place : YK yX6_place K_X6_place := ⟨by decide +kernel, rfl, rfl, rfl, w65, w263⟩
theorem vk_X6_place : VK yX6_place K_X6_place 6 0 := ⟨yk_X6_place, ⟨TX6, 7, KF6⟩, w261, w262, by decide, by decide, by decide +kernel⟩
theorem yk_X6_height : YK yX6_height K_X6_height := ⟨by decide +kernel, rfl, rfl, rfl, w65, w578⟩
theorem vk_X6_height : VK yX6_height K_X6_height 6 2 := ⟨yk_X6_height, ⟨TX6, 7, KF6⟩, w576, w577, by decide, by decide, by decide +kernel⟩
theorem yk_X6_analyse : YK yX6_analyse K_X6_analyse := ⟨by decide +kernel, rfl, rfl, rfl, w65, w587⟩
theorem vk_X6_analyse : VK yX6_analyse K_X6_analyse 6 1 := ⟨yk_X6_analyse, ⟨TX6, 7, KF6⟩, w585, w586, by decide, by decide, by decide +kernel⟩
theorem yk_X6_told : YK yX6_told K_X6_told := ⟨by decide +kernel, rfl, rfl, rfl, w65, w678⟩
theorem vk_X6_told : VK yX6_told K_X6_told 6 2 := ⟨yk_X6_told, ⟨TX6, 7, KF6⟩, w676, w677, by decide, by decide, by decide +kernel⟩
theorem yk_X6_bound : YK yX6_bound K_X6_bound := ⟨by decide +kernel, rfl, rfl, rfl, w65, w690⟩
theorem vk_X6_bound : VK yX6_bound K_X6_bound 6 2 := ⟨yk_X6_bound, ⟨TX6, 7, KF6⟩, w688, w689, by decide, by decide, by decide +kernel⟩
theorem yk_X6_argument : YK yX6_argument K_X6_argument := ⟨by decide +kernel, rfl, rfl, rfl, w65, w704⟩
theorem vk_X6_argument : VK yX6_argument K_X6_argument 6 1 := ⟨yk_X6_argument, ⟨TX6, 7, KF6⟩, w702, w703, by decide, by decide, by decide +kernel⟩
theorem yk_X6_run : YK yX6_run K_X6_run := ⟨by decide +kernel, rfl, rfl, rfl, w65, w727⟩
theorem vk_X6_run : VK yX6_run K_X6_run 6 2 := ⟨yk_X6_run, ⟨TX6, 7, KF6⟩, w725, w726, by decide, by decide, by decide +kernel⟩
theorem yk_X6_ran : YK yX6_ran K_X6_ran := ⟨by decide +kernel, rfl, rfl, rfl, w65, w811⟩
theorem vk_X6_ran : VK yX6_ran K_X6_ran 6 1 := ⟨yk_X6_ran, ⟨TX6, 7, KF6⟩, w809, w810, by decide, by decide, by decide +kernel⟩
theorem yk_X6_about : YK yX6_about K_X6_about := ⟨by decide +kernel, rfl, rfl, rfl, w65, w823⟩
theorem vk_X6_about : VK yX6_about K_X6_about 6 2 := ⟨yk_X6_about, ⟨TX6, 7, KF6⟩, w821, w822, by decide, by decide, by decide +kernel⟩
theorem yk_X6_known : YK yX6_known K_X6_known := ⟨by decide +kernel, rfl, rfl, rfl, w65, w430⟩
theorem vk_X6_known : VK yX6_known K_X6_known 6 1 := ⟨yk_X6_known, ⟨TX6, 7, KF6⟩, w429, w1, by decide, by decide, by decide +kernel⟩
theorem yk_X6_knownWith : YK yX6_knownWith K_X6_knownWith := ⟨by decide +kernel, rfl, rfl, rfl, w65, w473⟩
theorem vk_X6_knownWith : VK yX6_knownWith K_X6_knownWith 6 2 := ⟨yk_X6_knownWith, ⟨TX6, 7, KF6⟩, w472, w2, by decide, by decide, by decide +kernel⟩
theorem yk_X6_isOperation : YK yX6_isOperation K_X6_isOperation := ⟨by decide +kernel, rfl, rfl, rfl, w65, w486⟩
theorem sk_X6_isOperation : SK yX6_isOperation K_X6_isOperation 1 := ⟨yk_X6_isOperation, w485, by decide, by decide, by decide +kernel⟩
theorem yk_X7_init : YK yX7_init K_X7_init := ⟨by decide +kernel, rfl, rfl, rfl, w72, w833⟩
theorem yk_X7_thrown : YK yX7_thrown K_X7_thrown := ⟨by decide +kernel, rfl, rfl, rfl, w72, w963⟩
theorem vk_X7_thrown : VK yX7_thrown K_X7_thrown 7 0 := ⟨yk_X7_thrown, ⟨TX7, 41, KF7⟩, w961, w962, by decide, by decide, by decide +kernel⟩
theorem yk_X7_noMethod : YK yX7_noMethod K_X7_noMethod := ⟨by decide +kernel, rfl, rfl, rfl, w72, w975⟩
theorem vk_X7_noMethod : VK yX7_noMethod K_X7_noMethod 7 1 := ⟨yk_X7_noMethod, ⟨TX7, 41, KF7⟩, w974, w38, by decide, by decide, by decide +kernel⟩
theorem yk_X7_method : YK yX7_method K_X7_method := ⟨by decide +kernel, rfl, rfl, rfl, w72, w967⟩
theorem vk_X7_method : VK yX7_method K_X7_method 7 3 := ⟨yk_X7_method, ⟨TX7, 41, KF7⟩, w965, w966, by decide, by decide, by decide +kernel⟩
theorem yk_X7_add : YK yX7_add K_X7_add := ⟨by decide +kernel, rfl, rfl, rfl, w72, w971⟩
theorem vk_X7_add : VK yX7_add K_X7_add 7 3 := ⟨yk_X7_add, ⟨TX7, 41, KF7⟩, w969, w970, by decide, by decide, by decide +kernel⟩
theorem yk_X7_change : YK yX7_change K_X7_change := ⟨by decide +kernel, rfl, rfl, rfl, w72, w979⟩
theorem vk_X7_change : VK yX7_change K_X7_change 7 4 := ⟨yk_X7_change, ⟨TX7, 41, KF7⟩, w977, w978, by decide, by decide, by decide +kernel⟩
theorem yk_X7_cost : YK yX7_cost K_X7_cost := ⟨by decide +kernel, rfl, rfl, rfl, w72, w983⟩
theorem vk_X7_cost : VK yX7_cost K_X7_cost 7 2 := ⟨yk_X7_cost, ⟨TX7, 41, KF7⟩, w981, w982, by decide, by decide, by decide +kernel⟩
theorem yk_X7_fault : YK yX7_fault K_X7_fault := ⟨by decide +kernel, rfl, rfl, rfl, w72, w1010⟩
theorem vk_X7_fault : VK yX7_fault K_X7_fault 7 3 := ⟨yk_X7_fault, ⟨TX7, 41, KF7⟩, w1009, w43, by decide, by decide, by decide +kernel⟩
theorem yk_X7_brackets : YK yX7_brackets K_X7_brackets := ⟨by decide +kernel, rfl, rfl, rfl, w72, w1000⟩
theorem vk_X7_brackets : VK yX7_brackets K_X7_brackets 7 1 := ⟨yk_X7_brackets, ⟨TX7, 41, KF7⟩, w999, w41, by decide, by decide, by decide +kernel⟩
theorem yk_X7_badArg : YK yX7_badArg K_X7_badArg := ⟨by decide +kernel, rfl, rfl, rfl, w72, w1004⟩
theorem vk_X7_badArg : VK yX7_badArg K_X7_badArg 7 2 := ⟨yk_X7_badArg, ⟨TX7, 41, KF7⟩, w1003, w42, by decide, by decide, by decide +kernel⟩
theorem yk_X7_forms : YK yX7_forms K_X7_forms := ⟨by decide +kernel, rfl, rfl, rfl, w72, w996⟩
theorem vk_X7_forms : VK yX7_forms K_X7_forms 7 1 := ⟨yk_X7_forms, ⟨TX7, 41, KF7⟩, w995, w40, by decide, by decide, by decide +kernel⟩
theorem yk_X7_takes : YK yX7_takes K_X7_takes := ⟨by decide +kernel, rfl, rfl, rfl, w72, w1030⟩
theorem vk_X7_takes : VK yX7_takes K_X7_takes 7 2 := ⟨yk_X7_takes, ⟨TX7, 41, KF7⟩, w1029, w48, by decide, by decide, by decide +kernel⟩
theorem yk_X7_grows : YK yX7_grows K_X7_grows := ⟨by decide +kernel, rfl, rfl, rfl, w72, w1018⟩
theorem vk_X7_grows : VK yX7_grows K_X7_grows 7 2 := ⟨yk_X7_grows, ⟨TX7, 41, KF7⟩, w1017, w45, by decide, by decide, by decide +kernel⟩
theorem yk_X7_isOther : YK yX7_isOther K_X7_isOther := ⟨by decide +kernel, rfl, rfl, rfl, w72, w1026⟩
theorem vk_X7_isOther : VK yX7_isOther K_X7_isOther 7 3 := ⟨yk_X7_isOther, ⟨TX7, 41, KF7⟩, w1025, w47, by decide, by decide, by decide +kernel⟩
theorem yk_X7_tell : YK yX7_tell K_X7_tell := ⟨by decide +kernel, rfl, rfl, rfl, w72, w1034⟩
theorem vk_X7_tell : VK yX7_tell K_X7_tell 7 3 := ⟨yk_X7_tell, ⟨TX7, 41, KF7⟩, w1033, w49, by decide, by decide, by decide +kernel⟩
theorem yk_X7_onward : YK yX7_onward K_X7_onward := ⟨by decide +kernel, rfl, rfl, rfl, w72, w1022⟩
theorem vk_X7_onward : VK yX7_onward K_X7_onward 7 2 := ⟨yk_X7_onward, ⟨TX7, 41, KF7⟩, w1021, w46, by decide, by decide, by decide +kernel⟩
theorem yk_X7_heights : YK yX7_heights K_X7_heights := ⟨by decide +kernel, rfl, rfl, rfl, w72, w1014⟩
theorem vk_X7_heights : VK yX7_heights K_X7_heights 7 1 := ⟨yk_X7_heights, ⟨TX7, 41, KF7⟩, w1013, w44, by decide, by decide, by decide +kernel⟩
theorem yk_X7_examine : YK yX7_examine K_X7_examine := ⟨by decide +kernel, rfl, rfl, rfl, w72, w992⟩
theorem vk_X7_examine : VK yX7_examine K_X7_examine 7 1 := ⟨yk_X7_examine, ⟨TX7, 41, KF7⟩, w991, w39, by decide, by decide, by decide +kernel⟩
theorem yk_X7_examineAll : YK yX7_examineAll K_X7_examineAll := ⟨by decide +kernel, rfl, rfl, rfl, w72, w1054⟩
theorem vk_X7_examineAll : VK yX7_examineAll K_X7_examineAll 7 0 := ⟨yk_X7_examineAll, ⟨TX7, 41, KF7⟩, w1053, w51, by decide, by decide, by decide +kernel⟩
theorem yk_X7_check : YK yX7_check K_X7_check := ⟨by decide +kernel, rfl, rfl, rfl, w72, w988⟩
theorem vk_X7_check : VK yX7_check K_X7_check 7 1 := ⟨yk_X7_check, ⟨TX7, 41, KF7⟩, w986, w987, by decide, by decide, by decide +kernel⟩
theorem yk_X7_place : YK yX7_place K_X7_place := ⟨by decide +kernel, rfl, rfl, rfl, w72, w1038⟩
theorem vk_X7_place : VK yX7_place K_X7_place 7 0 := ⟨yk_X7_place, ⟨TX7, 41, KF7⟩, w1036, w1037, by decide, by decide, by decide +kernel⟩
theorem yk_X7_height : YK yX7_height K_X7_height := ⟨by decide +kernel, rfl, rfl, rfl, w72, w1042⟩
theorem vk_X7_height : VK yX7_height K_X7_height 7 2 := ⟨yk_X7_height, ⟨TX7, 41, KF7⟩, w1040, w1041, by decide, by decide, by decide +kernel⟩
theorem yk_X7_plus : YK yX7_plus K_X7_plus := ⟨by decide +kernel, rfl, rfl, rfl, w72, w1078⟩
theorem sk_X7_plus : SK yX7_plus K_X7_plus 2 := ⟨yk_X7_plus, w1077, by decide, by decide, by decide +kernel⟩
theorem yk_X7_times : YK yX7_times K_X7_times := ⟨by decide +kernel, rfl, rfl, rfl, w72, w1085⟩
theorem sk_X7_times : SK yX7_times K_X7_times 2 := ⟨yk_X7_times, w1084, by decide, by decide, by decide +kernel⟩
theorem yk_X7_greater : YK yX7_greater K_X7_greater := ⟨by decide +kernel, rfl, rfl, rfl, w72, w1082⟩
theorem sk_X7_greater : SK yX7_greater K_X7_greater 2 := ⟨yk_X7_greater, w1081, by decide, by decide, by decide +kernel⟩
theorem yk_X7_reach : YK yX7_reach K_X7_reach := ⟨by decide +kernel, rfl, rfl, rfl, w72, w1090⟩
theorem vk_X7_reach : VK yX7_reach K_X7_reach 7 2 := ⟨yk_X7_reach, ⟨TX7, 41, KF7⟩, w1089, w57, by decide, by decide, by decide +kernel⟩
theorem yk_X7_region : YK yX7_region K_X7_region := ⟨by decide +kernel, rfl, rfl, rfl, w72, w1074⟩
theorem vk_X7_region : VK yX7_region K_X7_region 7 2 := ⟨yk_X7_region, ⟨TX7, 41, KF7⟩, w1073, w56, by decide, by decide, by decide +kernel⟩
theorem yk_X7_boundOne : YK yX7_boundOne K_X7_boundOne := ⟨by decide +kernel, rfl, rfl, rfl, w72, w1070⟩
theorem vk_X7_boundOne : VK yX7_boundOne K_X7_boundOne 7 1 := ⟨yk_X7_boundOne, ⟨TX7, 41, KF7⟩, w1069, w55, by decide, by decide, by decide +kernel⟩
theorem yk_X7_calls : YK yX7_calls K_X7_calls := ⟨by decide +kernel, rfl, rfl, rfl, w72, w1058⟩
theorem vk_X7_calls : VK yX7_calls K_X7_calls 7 2 := ⟨yk_X7_calls, ⟨TX7, 41, KF7⟩, w1057, w52, by decide, by decide, by decide +kernel⟩
theorem yk_X7_analyseFrom : YK yX7_analyseFrom K_X7_analyseFrom := ⟨by decide +kernel, rfl, rfl, rfl, w72, w1050⟩
theorem vk_X7_analyseFrom : VK yX7_analyseFrom K_X7_analyseFrom 7 1 := ⟨yk_X7_analyseFrom, ⟨TX7, 41, KF7⟩, w1049, w50, by decide, by decide, by decide +kernel⟩
theorem yk_X7_isRound : YK yX7_isRound K_X7_isRound := ⟨by decide +kernel, rfl, rfl, rfl, w72, w1062⟩
theorem vk_X7_isRound : VK yX7_isRound K_X7_isRound 7 0 := ⟨yk_X7_isRound, ⟨TX7, 41, KF7⟩, w1061, w53, by decide, by decide, by decide +kernel⟩
theorem yk_X7_boundAll : YK yX7_boundAll K_X7_boundAll := ⟨by decide +kernel, rfl, rfl, rfl, w72, w1066⟩
theorem vk_X7_boundAll : VK yX7_boundAll K_X7_boundAll 7 0 := ⟨yk_X7_boundAll, ⟨TX7, 41, KF7⟩, w1065, w54, by decide, by decide, by decide +kernel⟩
theorem yk_X7_analyse : YK yX7_analyse K_X7_analyse := ⟨by decide +kernel, rfl, rfl, rfl, w72, w1046⟩
theorem vk_X7_analyse : VK yX7_analyse K_X7_analyse 7 1 := ⟨yk_X7_analyse, ⟨TX7, 41, KF7⟩, w1044, w1045, by decide, by decide, by decide +kernel⟩
theorem yk_X7_told : YK yX7_told K_X7_told := ⟨by decide +kernel, rfl, rfl, rfl, w72, w1095⟩
theorem vk_X7_told : VK yX7_told K_X7_told 7 2 := ⟨yk_X7_told, ⟨TX7, 41, KF7⟩, w1093, w1094, by decide, by decide, by decide +kernel⟩
theorem yk_X7_bound : YK yX7_bound K_X7_bound := ⟨by decide +kernel, rfl, rfl, rfl, w72, w1099⟩
theorem vk_X7_bound : VK yX7_bound K_X7_bound 7 2 := ⟨yk_X7_bound, ⟨TX7, 41, KF7⟩, w1097, w1098, by decide, by decide, by decide +kernel⟩
theorem yk_X7_argument : YK yX7_argument K_X7_argument := ⟨by decide +kernel, rfl, rfl, rfl, w72, w1103⟩
theorem vk_X7_argument : VK yX7_argument K_X7_argument 7 1 := ⟨yk_X7_argument, ⟨TX7, 41, KF7⟩, w1101, w1102, by decide, by decide, by decide +kernel⟩
theorem yk_X7_enter : YK yX7_enter K_X7_enter := ⟨by decide +kernel, rfl, rfl, rfl, w72, w1112⟩
theorem vk_X7_enter : VK yX7_enter K_X7_enter 7 1 := ⟨yk_X7_enter, ⟨TX7, 41, KF7⟩, w1111, w58, by decide, by decide, by decide +kernel⟩
theorem yk_X7_push : YK yX7_push K_X7_push := ⟨by decide +kernel, rfl, rfl, rfl, w72, w1120⟩
theorem vk_X7_push : VK yX7_push K_X7_push 7 1 := ⟨yk_X7_push, ⟨TX7, 41, KF7⟩, w1119, w60, by decide, by decide, by decide +kernel⟩
theorem yk_X7_take : YK yX7_take K_X7_take := ⟨by decide +kernel, rfl, rfl, rfl, w72, w1124⟩
theorem vk_X7_take : VK yX7_take K_X7_take 7 0 := ⟨yk_X7_take, ⟨TX7, 41, KF7⟩, w1123, w61, by decide, by decide, by decide +kernel⟩
theorem yk_X7_work : YK yX7_work K_X7_work := ⟨by decide +kernel, rfl, rfl, rfl, w72, w1135⟩
theorem sk_X7_work : SK yX7_work K_X7_work 3 := ⟨yk_X7_work, w1134, by decide, by decide, by decide +kernel⟩
theorem yk_X7_call : YK yX7_call K_X7_call := ⟨by decide +kernel, rfl, rfl, rfl, w72, w1128⟩
theorem vk_X7_call : VK yX7_call K_X7_call 7 1 := ⟨yk_X7_call, ⟨TX7, 41, KF7⟩, w1127, w62, by decide, by decide, by decide +kernel⟩
theorem yk_X7_back : YK yX7_back K_X7_back := ⟨by decide +kernel, rfl, rfl, rfl, w72, w1132⟩
theorem vk_X7_back : VK yX7_back K_X7_back 7 1 := ⟨yk_X7_back, ⟨TX7, 41, KF7⟩, w1131, w63, by decide, by decide, by decide +kernel⟩
theorem yk_X7_doOne : YK yX7_doOne K_X7_doOne := ⟨by decide +kernel, rfl, rfl, rfl, w72, w1116⟩
theorem vk_X7_doOne : VK yX7_doOne K_X7_doOne 7 2 := ⟨yk_X7_doOne, ⟨TX7, 41, KF7⟩, w1115, w59, by decide, by decide, by decide +kernel⟩
theorem yk_X7_run : YK yX7_run K_X7_run := ⟨by decide +kernel, rfl, rfl, rfl, w72, w1107⟩
theorem vk_X7_run : VK yX7_run K_X7_run 7 2 := ⟨yk_X7_run, ⟨TX7, 41, KF7⟩, w1105, w1106, by decide, by decide, by decide +kernel⟩
theorem yk_X7_ran : YK yX7_ran K_X7_ran := ⟨by decide +kernel, rfl, rfl, rfl, w72, w1139⟩
theorem vk_X7_ran : VK yX7_ran K_X7_ran 7 1 := ⟨yk_X7_ran, ⟨TX7, 41, KF7⟩, w1137, w1138, by decide, by decide, by decide +kernel⟩
theorem yk_X7_about : YK yX7_about K_X7_about := ⟨by decide +kernel, rfl, rfl, rfl, w72, w1143⟩
theorem vk_X7_about : VK yX7_about K_X7_about 7 2 := ⟨yk_X7_about, ⟨TX7, 41, KF7⟩, w1141, w1142, by decide, by decide, by decide +kernel⟩
theorem yk_J7_fill_53178 : YK yJ7_fill_53178 K_J7_fill_53178 := ⟨by decide +kernel, rfl, rfl, rfl, w67, w99⟩
theorem sk_J7_fill_53178 : SK yJ7_fill_53178 K_J7_fill_53178 2 := ⟨yk_J7_fill_53178, w98, by decide, by decide, by decide +kernel⟩
theorem g_maxI {G : Gm} {X : Sc} {K : MK} {pc idx : Nat} {L : LVs} {st : List AV} {M : AM} {fin : Fin'} {x y : Int32} (w1 : Cond.methodLink (kO K) idx Lib.Math.max.name ∈ gtbl) (hF : 1 ≤ kF K) (hW : (st.map catA).sum + 13 ≤ kW K) (hd : decode (kC K) pc = .ok (.invokestatic idx, 3)) (kk : GW G X K (pc + 3) L (aI (if x < y then y else x) :: st) M fin) : GW G X K pc L (aI y :: aI x :: st) M fin := fun p l e R s m args below meth c H locs cells slots mc ms ls ct lv wd hs h1 h2 h3 h4 h5 h6 => by
  have hfr := ct.2.2.2.2.2.2.2.2.2.1
  have hlo := ct.2.2.2.2.2.2.2.2.2.2.1
  exact va_mmax ct.1 ct.2.1 (ct.2.2.1.trans lv.1.symm) ct.2.2.2.1 (ct.2.2.2.2.1 _ w1) (ct.2.2.2.2.1 _ w757) (ct.2.2.2.2.1 _ w79) (ct.2.2.2.2.1 _ w758) (by omega) (by rw [catA_sum]; omega) (by omega) (by omega) hd (kk p l e R s m args below meth c H locs cells slots mc ms ls ct lv wd hs h1 h2 h3 h4 h5 h6)
theorem e_maxI {K : MK} {pc idx : Nat} {L : LVs} {st : List AV} {M M' : AM} {v : Option AV} {x y : Int32} (w1 : Cond.methodLink (kO K) idx Lib.Math.max.name ∈ gtbl) (hF : 1 ≤ kF K) (hW : (st.map catA).sum + 13 ≤ kW K) (hd : decode (kC K) pc = .ok (.invokestatic idx, 3)) (kk : E K (pc + 3) L (aI (if x < y then y else x) :: st) M v M') : E K pc L (aI y :: aI x :: st) M v M' := ⟨kk.1, fun G X => g_maxI w1 hF hW hd (kk.2 G X)⟩
theorem g_maxJ {G : Gm} {X : Sc} {K : MK} {pc idx : Nat} {L : LVs} {st : List AV} {M : AM} {fin : Fin'} {x y : Int64} (w1 : Cond.methodLink (kO K) idx Lib.MathLoose.max_long.x ∈ gtbl) (hF : 1 ≤ kF K) (hW : (st.map catA).sum + 15 ≤ kW K) (hd : decode (kC K) pc = .ok (.invokestatic idx, 3)) (kk : GW G X K (pc + 3) L (aJ (if y < x then x else y) :: st) M fin) : GW G X K pc L (aJ y :: aJ x :: st) M fin := fun p l e R s m args below meth c H locs cells slots mc ms ls ct lv wd hs h1 h2 h3 h4 h5 h6 => by
  have hfr := ct.2.2.2.2.2.2.2.2.2.1
  have hlo := ct.2.2.2.2.2.2.2.2.2.2.1
  exact va_mmax_long ct.1 ct.2.1 (ct.2.2.1.trans lv.1.symm) ct.2.2.2.1 (ct.2.2.2.2.1 _ w1) (ct.2.2.2.2.1 _ w631) (ct.2.2.2.2.1 _ w79) (ct.2.2.2.2.1 _ w632) (by omega) (by rw [catA_sum]; omega) (by omega) (by omega) hd (kk p l e R s m args below meth c H locs cells slots mc ms ls ct lv wd hs h1 h2 h3 h4 h5 h6)
theorem e_maxJ {K : MK} {pc idx : Nat} {L : LVs} {st : List AV} {M M' : AM} {v : Option AV} {x y : Int64} (w1 : Cond.methodLink (kO K) idx Lib.MathLoose.max_long.x ∈ gtbl) (hF : 1 ≤ kF K) (hW : (st.map catA).sum + 15 ≤ kW K) (hd : decode (kC K) pc = .ok (.invokestatic idx, 3)) (kk : E K (pc + 3) L (aJ (if y < x then x else y) :: st) M v M') : E K pc L (aJ y :: aJ x :: st) M v M' := ⟨kk.1, fun G X => g_maxJ w1 hF hW hd (kk.2 G X)⟩
