/-- row -/
def gz_op_row (IV : gz_M → Prop) (fu x mo : Nat) : Prop := ∀ (M : gz_M) (p0 : Int32) (p1 : Int32) (p2 : Int32), IV M → ∃ (r : Int32) (M1 : gz_M) (M2 : gz_M), f_X9_row fu M x p0 p1 p2 = some (r, M1) ∧ f_X10_row fu M1 mo p0 p1 p2 = some (r, M2) ∧ IV M2
/-- set -/
def gz_op_set (IV : gz_M → Prop) (fu x mo : Nat) : Prop := ∀ (M : gz_M) (p0 : Int32) (p1 : Int32) (p2 : Int64), IV M → ∃ (r : Int32) (M1 : gz_M) (M2 : gz_M), f_X9_set fu M x p0 p1 p2 = some (r, M1) ∧ f_X10_set fu M1 mo p0 p1 p2 = some (r, M2) ∧ IV M2
/-- copy -/
def gz_op_copy (IV : gz_M → Prop) (fu x mo : Nat) : Prop := ∀ (M : gz_M) (p0 : Int32) (p1 : Int32) (p2 : Int32) (p3 : Int32) (p4 : Int32), IV M → ∃ (r : Int32) (M1 : gz_M) (M2 : gz_M), f_X9_copy fu M x p0 p1 p2 p3 p4 = some (r, M1) ∧ f_X10_copy fu M1 mo p0 p1 p2 p3 p4 = some (r, M2) ∧ IV M2
/-- element -/
def gz_op_element (IV : gz_M → Prop) (fu x mo : Nat) : Prop := ∀ (M : gz_M) (p0 : Int32) (p1 : Int32), IV M → ∃ (r : Int64), f_X9_element fu M x p0 p1 = some r ∧ f_X10_element fu M mo p0 p1 = some r ∧ IV M
/-- holds -/
def gz_op_holds (IV : gz_M → Prop) (fu x mo : Nat) : Prop := ∀ (M : gz_M) (p0 : Int32), IV M → ∃ (r : Int32), f_X9_holds fu M x p0 = some r ∧ f_X10_holds fu M mo p0 = some r ∧ IV M
/-- tool -/
def gz_op_tool (IV : gz_M → Prop) (fu x mo : Nat) : Prop := ∀ (M : gz_M) (p0 : Int32) (p1 : Int32) (p2 : Int32) (p3 : Int32), IV M → ∃ (r : Int32) (M1 : gz_M) (M2 : gz_M), f_X9_tool fu M x p0 p1 p2 p3 = some (r, M1) ∧ f_X10_tool fu M1 mo p0 p1 p2 p3 = some (r, M2) ∧ IV M2
/-- says -/
def gz_op_says (IV : gz_M → Prop) (fu x mo : Nat) : Prop := ∀ (M : gz_M) (p0 : Int32) (p1 : Int32), IV M → ∃ (r : Int32) (M1 : gz_M) (M2 : gz_M), f_X9_says fu M x p0 p1 = some (r, M1) ∧ f_X10_says fu M1 mo p0 p1 = some (r, M2) ∧ IV M2
/-- tries -/
def gz_op_tries (IV : gz_M → Prop) (fu x mo : Nat) : Prop := ∀ (M : gz_M) (p0 : Int32) (p1 : Int32) (p2 : Int32), IV M → ∃ (r : Int32) (M1 : gz_M) (M2 : gz_M), f_X9_tries fu M x p0 p1 p2 = some (r, M1) ∧ f_X10_tries fu M1 mo p0 p1 p2 = some (r, M2) ∧ IV M2
/-- shoes -/
def gz_op_shoes (IV : gz_M → Prop) (fu x mo : Nat) : Prop := ∀ (M : gz_M) (p0 : Int32) (p1 : Int32), IV M → ∃ (r : Int32) (M1 : gz_M) (M2 : gz_M), f_X9_shoes fu M x p0 p1 = some (r, M1) ∧ f_X10_shoes fu M1 mo p0 p1 = some (r, M2) ∧ IV M2
/-- feed -/
def gz_op_feed (IV : gz_M → Prop) (fu x mo : Nat) : Prop := ∀ (M : gz_M) (p0 : Int32) (p1 : Int32), IV M → ∃ (r : Int32) (M1 : gz_M) (M2 : gz_M), f_X9_feed fu M x p0 p1 = some (r, M1) ∧ f_X10_feed fu M1 mo p0 p1 = some (r, M2) ∧ IV M2
/-- wipe -/
def gz_op_wipe (IV : gz_M → Prop) (fu x mo : Nat) : Prop := ∀ (M : gz_M), IV M → ∃ (r : Int32) (M1 : gz_M) (M2 : gz_M), f_X9_wipe fu M x = some (r, M1) ∧ f_X10_wipe fu M1 mo = some (r, M2) ∧ IV M2
/-- valley -/
def gz_op_valley (IV : gz_M → Prop) (fu x mo : Nat) : Prop := ∀ (M : gz_M), IV M → ∃ (r : Int32) (M1 : gz_M) (M2 : gz_M), f_X9_valley fu M x = some (r, M1) ∧ f_X10_valley fu M1 mo = some (r, M2) ∧ IV M2
/-- valleyOf -/
def gz_op_valleyOf (IV : gz_M → Prop) (fu x mo : Nat) : Prop := ∀ (M : gz_M) (p0 : Int32) (p1 : Int32), IV M → ∃ (r : Int32) (M1 : gz_M) (M2 : gz_M), f_X9_valleyOf fu M x p0 p1 = some (r, M1) ∧ f_X10_valleyOf fu M1 mo p0 p1 = some (r, M2) ∧ IV M2
/-- footOf -/
def gz_op_footOf (IV : gz_M → Prop) (fu x mo : Nat) : Prop := ∀ (M : gz_M) (p0 : Int32) (p1 : Int32) (p2 : Int32), IV M → ∃ (r : Int32) (M1 : gz_M) (M2 : gz_M), f_X9_footOf fu M x p0 p1 p2 = some (r, M1) ∧ f_X10_footOf fu M1 mo p0 p1 p2 = some (r, M2) ∧ IV M2
/-- lastOf -/
def gz_op_lastOf (IV : gz_M → Prop) (fu x mo : Nat) : Prop := ∀ (M : gz_M) (p0 : Int32) (p1 : Int32) (p2 : Int32), IV M → ∃ (r : Int32) (M1 : gz_M) (M2 : gz_M), f_X9_lastOf fu M x p0 p1 p2 = some (r, M1) ∧ f_X10_lastOf fu M1 mo p0 p1 p2 = some (r, M2) ∧ IV M2
/-- feet -/
def gz_op_feet (IV : gz_M → Prop) (fu x mo : Nat) : Prop := ∀ (M : gz_M) (p0 : Int32) (p1 : Int32), IV M → ∃ (r : Int32) (M1 : gz_M) (M2 : gz_M), f_X9_feet fu M x p0 p1 = some (r, M1) ∧ f_X10_feet fu M1 mo p0 p1 = some (r, M2) ∧ IV M2
/-- alter -/
def gz_op_alter (IV : gz_M → Prop) (fu x mo : Nat) : Prop := ∀ (M : gz_M) (p0 : Int32) (p1 : Int32) (p2 : Int32) (p3 : Int32), IV M → ∃ (r : Int32) (M1 : gz_M) (M2 : gz_M), f_X9_alter fu M x p0 p1 p2 p3 = some (r, M1) ∧ f_X10_alter fu M1 mo p0 p1 p2 p3 = some (r, M2) ∧ IV M2
/-- carve -/
def gz_op_carve (IV : gz_M → Prop) (fu x mo : Nat) : Prop := ∀ (M : gz_M) (p0 : Int32) (p1 : Int32) (p2 : Int32) (p3 : Int32), IV M → ∃ (r : Int32) (M1 : gz_M) (M2 : gz_M), f_X9_carve fu M x p0 p1 p2 p3 = some (r, M1) ∧ f_X10_carve fu M1 mo p0 p1 p2 p3 = some (r, M2) ∧ IV M2
/-- build -/
def gz_op_build (IV : gz_M → Prop) (fu x mo : Nat) : Prop := ∀ (M : gz_M) (p0 : Int32) (p1 : Int32) (p2 : Int32), IV M → ∃ (r : Int32) (M1 : gz_M) (M2 : gz_M), f_X9_build fu M x p0 p1 p2 = some (r, M1) ∧ f_X10_build fu M1 mo p0 p1 p2 = some (r, M2) ∧ IV M2
/-- year -/
def gz_op_year (IV : gz_M → Prop) (fu x mo : Nat) : Prop := ∀ (M : gz_M) (p0 : Int32), IV M → ∃ (r : Int32) (M1 : gz_M) (M2 : gz_M), f_X9_year fu M x p0 = some (r, M1) ∧ f_X10_year fu M1 mo p0 = some (r, M2) ∧ IV M2
/-- does -/
def gz_op_does (IV : gz_M → Prop) (fu x mo : Nat) : Prop := ∀ (M : gz_M) (p0 : Int32) (p1 : Int32) (p2 : Int32), IV M → ∃ (r : Int32) (M1 : gz_M) (M2 : gz_M), f_X9_does fu M x p0 p1 p2 = some (r, M1) ∧ f_X10_does fu M1 mo p0 p1 p2 = some (r, M2) ∧ IV M2
/-- bad -/
def gz_op_bad (IV : gz_M → Prop) (fu x mo : Nat) : Prop := ∀ (M : gz_M) (p0 : Int32) (p1 : Int32) (p2 : Int32), IV M → ∃ (r : Int32) (M1 : gz_M) (M2 : gz_M), f_X9_bad fu M x p0 p1 p2 = some (r, M1) ∧ f_X10_bad fu M1 mo p0 p1 p2 = some (r, M2) ∧ IV M2
/-- whose -/
def gz_op_whose (IV : gz_M → Prop) (fu x mo : Nat) : Prop := ∀ (M : gz_M) (p0 : Int32) (p1 : Int32) (p2 : Int32), IV M → ∃ (r : Int32) (M1 : gz_M) (M2 : gz_M), f_X9_whose fu M x p0 p1 p2 = some (r, M1) ∧ f_X10_whose fu M1 mo p0 p1 p2 = some (r, M2) ∧ IV M2
/-- total -/
def gz_op_total (IV : gz_M → Prop) (fu x mo : Nat) : Prop := ∀ (M : gz_M) (p0 : Int32) (p1 : Int32), IV M → ∃ (r : Int32) (M1 : gz_M) (M2 : gz_M), f_X9_total fu M x p0 p1 = some (r, M1) ∧ f_X10_total fu M1 mo p0 p1 = some (r, M2) ∧ IV M2
/-- out -/
def gz_op_out (IV : gz_M → Prop) (fu x mo : Nat) : Prop := ∀ (M : gz_M) (p0 : Int32) (p1 : Int32), IV M → ∃ (r : Int32) (M1 : gz_M) (M2 : gz_M), f_X9_out fu M x p0 p1 = some (r, M1) ∧ f_X10_out fu M1 mo p0 p1 = some (r, M2) ∧ IV M2
/-- judge -/
def gz_op_judge (IV : gz_M → Prop) (fu x mo : Nat) : Prop := ∀ (M : gz_M) (p0 : Int32) (p1 : Int32) (p2 : Int32), IV M → ∃ (r : Int32) (M1 : gz_M) (M2 : gz_M), f_X9_judge fu M x p0 p1 p2 = some (r, M1) ∧ f_X10_judge fu M1 mo p0 p1 p2 = some (r, M2) ∧ IV M2
/-- best -/
def gz_op_best (IV : gz_M → Prop) (fu x mo : Nat) : Prop := ∀ (M : gz_M) (p0 : Int32) (p1 : Int32), IV M → ∃ (r : Int32) (M1 : gz_M) (M2 : gz_M), f_X9_best fu M x p0 p1 = some (r, M1) ∧ f_X10_best fu M1 mo p0 p1 = some (r, M2) ∧ IV M2
/-- more -/
def gz_op_more (IV : gz_M → Prop) (fu x mo : Nat) : Prop := ∀ (M : gz_M) (p0 : Int32) (p1 : Int32), IV M → ∃ (r : Int32) (M1 : gz_M) (M2 : gz_M), f_X9_more fu M x p0 p1 = some (r, M1) ∧ f_X10_more fu M1 mo p0 p1 = some (r, M2) ∧ IV M2
/-- enough -/
def gz_op_enough (IV : gz_M → Prop) (fu x mo : Nat) : Prop := ∀ (M : gz_M) (p0 : Int32) (p1 : Int32), IV M → ∃ (r : Int32) (M1 : gz_M) (M2 : gz_M), f_X9_enough fu M x p0 p1 = some (r, M1) ∧ f_X10_enough fu M1 mo p0 p1 = some (r, M2) ∧ IV M2
/-- changed -/
def gz_op_changed (IV : gz_M → Prop) (fu x mo : Nat) : Prop := ∀ (M : gz_M) (p0 : Int32) (p1 : Int32), IV M → ∃ (r : Int32) (M1 : gz_M) (M2 : gz_M), f_X9_changed fu M x p0 p1 = some (r, M1) ∧ f_X10_changed fu M1 mo p0 p1 = some (r, M2) ∧ IV M2
/-- bound -/
def gz_op_bound (IV : gz_M → Prop) (fu x mo : Nat) : Prop := ∀ (M : gz_M) (p0 : Int32), IV M → ∃ (r : Int32) (M1 : gz_M) (M2 : gz_M), f_X9_bound fu M x p0 = some (r, M1) ∧ f_X10_bound fu M1 mo p0 = some (r, M2) ∧ IV M2
/-- fair -/
def gz_op_fair (IV : gz_M → Prop) (fu x mo : Nat) : Prop := ∀ (M : gz_M) (p0 : Int32) (p1 : Int32), IV M → ∃ (r : Int32) (M1 : gz_M) (M2 : gz_M), f_X9_fair fu M x p0 p1 = some (r, M1) ∧ f_X10_fair fu M1 mo p0 p1 = some (r, M2) ∧ IV M2
/-- shod -/
def gz_op_shod (IV : gz_M → Prop) (fu x mo : Nat) : Prop := ∀ (M : gz_M) (p0 : Int32) (p1 : Int32), IV M → ∃ (r : Int32) (M1 : gz_M) (M2 : gz_M), f_X9_shod fu M x p0 p1 = some (r, M1) ∧ f_X10_shod fu M1 mo p0 p1 = some (r, M2) ∧ IV M2
/-- line -/
def gz_op_line (IV : gz_M → Prop) (fu x mo : Nat) : Prop := ∀ (M : gz_M) (p0 : Int32) (p1 : Int32) (p2 : Int32) (p3 : Int32), IV M → ∃ (r : Int32) (M1 : gz_M) (M2 : gz_M), f_X9_line fu M x p0 p1 p2 p3 = some (r, M1) ∧ f_X10_line fu M1 mo p0 p1 p2 p3 = some (r, M2) ∧ IV M2
/-- corners -/
def gz_op_corners (IV : gz_M → Prop) (fu x mo : Nat) : Prop := ∀ (M : gz_M) (p0 : Int32), IV M → ∃ (r : Int32) (M1 : gz_M) (M2 : gz_M), f_X9_corners fu M x p0 = some (r, M1) ∧ f_X10_corners fu M1 mo p0 = some (r, M2) ∧ IV M2
/-- corner -/
def gz_op_corner (IV : gz_M → Prop) (fu x mo : Nat) : Prop := ∀ (M : gz_M) (p0 : Int32) (p1 : Int32), IV M → ∃ (r : Int32) (M1 : gz_M) (M2 : gz_M), f_X9_corner fu M x p0 p1 = some (r, M1) ∧ f_X10_corner fu M1 mo p0 p1 = some (r, M2) ∧ IV M2
/-- keeps -/
def gz_op_keeps (IV : gz_M → Prop) (fu x mo : Nat) : Prop := ∀ (M : gz_M) (p0 : Int32) (p1 : Int32) (p2 : Int32), IV M → ∃ (r : Int32) (M1 : gz_M) (M2 : gz_M), f_X9_keeps fu M x p0 p1 p2 = some (r, M1) ∧ f_X10_keeps fu M1 mo p0 p1 p2 = some (r, M2) ∧ IV M2
/-- lend -/
def gz_op_lend (IV : gz_M → Prop) (fu x mo : Nat) : Prop := ∀ (M : gz_M) (p0 : Int32) (p1 : Int32) (p2 : Int32) (p3 : Int32), IV M → ∃ (r : Int32) (M1 : gz_M) (M2 : gz_M), f_X9_lend fu M x p0 p1 p2 p3 = some (r, M1) ∧ f_X10_lend fu M1 mo p0 p1 p2 p3 = some (r, M2) ∧ IV M2
/-- doubt -/
def gz_op_doubt (IV : gz_M → Prop) (fu x mo : Nat) : Prop := ∀ (M : gz_M) (p0 : Int32) (p1 : Int32), IV M → ∃ (r : Int32) (M1 : gz_M) (M2 : gz_M), f_X9_doubt fu M x p0 p1 = some (r, M1) ∧ f_X10_doubt fu M1 mo p0 p1 = some (r, M2) ∧ IV M2
/-- idle -/
def gz_op_idle (IV : gz_M → Prop) (fu x mo : Nat) : Prop := ∀ (M : gz_M) (p0 : Int32), IV M → ∃ (r : Int32) (M1 : gz_M) (M2 : gz_M), f_X9_idle fu M x p0 = some (r, M1) ∧ f_X10_idle fu M1 mo p0 = some (r, M2) ∧ IV M2
/-- begin -/
def gz_op_begin (IV : gz_M → Prop) (fu x mo : Nat) : Prop := ∀ (M : gz_M) (p0 : Int32) (p1 : Int32), IV M → ∃ (r : Int32) (M1 : gz_M) (M2 : gz_M), f_X9_begin fu M x p0 p1 = some (r, M1) ∧ f_X10_begin fu M1 mo p0 p1 = some (r, M2) ∧ IV M2
/-- step -/
def gz_op_step (IV : gz_M → Prop) (fu x mo : Nat) : Prop := ∀ (M : gz_M) (p0 : Int32), IV M → ∃ (r : Int32) (M1 : gz_M) (M2 : gz_M), f_X9_step fu M x p0 = some (r, M1) ∧ f_X10_step fu M1 mo p0 = some (r, M2) ∧ IV M2
/-- search -/
def gz_op_search (IV : gz_M → Prop) (fu x mo : Nat) : Prop := ∀ (M : gz_M) (p0 : Int32), IV M → ∃ (r : Int32) (M1 : gz_M) (M2 : gz_M), f_X9_search fu M x p0 = some (r, M1) ∧ f_X10_search fu M1 mo p0 = some (r, M2) ∧ IV M2
/-- image -/
def gz_op_image (IV : gz_M → Prop) (fu x mo : Nat) : Prop := ∀ (M : gz_M), IV M → ∃ (r : Int32) (M1 : gz_M) (M2 : gz_M), f_X9_image fu M x = some (r, M1) ∧ f_X10_image fu M1 mo = some (r, M2) ∧ IV M2
/-- back -/
def gz_op_back (IV : gz_M → Prop) (fu x mo : Nat) : Prop := ∀ (M : gz_M), IV M → ∃ (r : Int32) (M1 : gz_M) (M2 : gz_M), f_X9_back fu M x = some (r, M1) ∧ f_X10_back fu M1 mo = some (r, M2) ∧ IV M2
/-- status -/
def gz_op_status (IV : gz_M → Prop) (fu x mo : Nat) : Prop := ∀ (M : gz_M) (p0 : Int32), IV M → ∃ (r : Int32), f_X9_status fu M x p0 = some r ∧ f_X10_status fu M mo p0 = some r ∧ IV M
