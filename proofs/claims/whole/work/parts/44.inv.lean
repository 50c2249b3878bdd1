/-! WHAT ALWAYS HOLDS, kept by every call -/
theorem I_need {g : x_SG} (h : Inv g) (v0 v1 : Int32) : Inv (F_need g v0 v1).2 := by
  sorry
theorem I_stretch {g : x_SG} (h : Inv g) (v0 v1 : Int32) : Inv (F_stretch g v0 v1).2 := by
  sorry
theorem I_person {g : x_SG} (h : Inv g) (v0 v1 : Int32) : Inv (F_person g v0 v1).2 := by
  sorry
theorem I_of {g : x_SG} (h : Inv g) (v0 v1 : Int32) : Inv (F_of g v0 v1).2 := by
  sorry
theorem I_change {g : x_SG} (h : Inv g) (v0 v1 v2 : Int32) : Inv (F_change g v0 v1 v2).2 := by
  sorry
theorem I_set {g : x_SG} (h : Inv g) (v0 v1 : Int32) : Inv (F_set g v0 v1).2 := by
  sorry
theorem I_board {g : x_SG} (h : Inv g) (v0 : Int32) : Inv (F_board g v0).2 := by
  sorry
theorem I_leave {g : x_SG} (h : Inv g) (v0 : Int32) : Inv (F_leave g v0).2 := by
  sorry
theorem I_go {g : x_SG} (h : Inv g) (v0 : Int32) : Inv (F_go g v0).2 := by
  sorry
theorem I_now {g : x_SG} (h : Inv g) (v0 : Int32) : Inv (F_now g v0).2 := by
  sorry
theorem I_ahead {g : x_SG} (h : Inv g) (v0 : Int32) : Inv (F_ahead g v0).2 := by
  sorry
theorem I_believes {g : x_SG} (h : Inv g) (v0 v1 : Int32) : Inv (F_believes g v0 v1).2 := by
  sorry
theorem I_when {g : x_SG} (h : Inv g) (v0 : Int32) : Inv (F_when g v0).2 := by
  sorry
theorem I_falls {g : x_SG} (h : Inv g) : Inv (F_falls g).2 := by
  sorry
theorem I_settles {g : x_SG} (h : Inv g) : Inv (F_settles g).2 := by
  sorry
theorem I_there {g : x_SG} (h : Inv g) (v0 : Int32) : Inv (F_there g v0).2 := by
  sorry
theorem I_kindFor {g : x_SG} (h : Inv g) (v0 v1 : Int32) : Inv (F_kindFor g v0 v1).2 := by
  sorry
theorem I_with {g : x_SG} (h : Inv g) (v0 v1 : Int32) : Inv (F_with g v0 v1).2 := by
  sorry
theorem I_fewest {g : x_SG} (h : Inv g) (v0 v1 : Int32) : Inv (F_fewest g v0 v1).2 := by
  sorry
theorem I_farthest {g : x_SG} (h : Inv g) (v0 : Int32) : Inv (F_farthest g v0).2 := by
  sorry
theorem I_without {g : x_SG} (h : Inv g) (v0 : Int32) : Inv (F_without g v0).2 := by
  sorry
theorem I_persuade {g : x_SG} (h : Inv g) (v0 v1 v2 : Int32) : Inv (F_persuade g v0 v1 v2).2 := by
  sorry
theorem I_bears {g : x_SG} (h : Inv g) (v0 v1 : Int32) : Inv (F_bears g v0 v1).2 := by
  sorry
theorem I_seat {g : x_SG} (h : Inv g) (v0 v1 : Int32) : Inv (F_seat g v0 v1).2 := by
  sorry
theorem I_kinds {g : x_SG} (h : Inv g) (v0 v1 : Int32) : Inv (F_kinds g v0 v1).2 := by
  sorry
theorem I_beliefs {g : x_SG} (h : Inv g) (v0 v1 : Int32) : Inv (F_beliefs g v0 v1).2 := by
  sorry
theorem I_least {g : x_SG} (h : Inv g) (v0 v1 : Int32) : Inv (F_least g v0 v1).2 := by
  sorry
theorem I_worth {g : x_SG} (h : Inv g) : Inv (F_worth g).2 := by
  sorry
theorem I_hangs {g : x_SG} (h : Inv g) (v0 : Int32) : Inv (F_hangs g v0).2 := by
  sorry
theorem I_run {g : x_SG} (h : Inv g) : Inv (F_run g).2 := by
  sorry
theorem I_gold {g : x_SG} (h : Inv g) (v0 : Int32) : Inv (F_gold g v0).2 := by
  sorry
theorem I_odds {g : x_SG} (h : Inv g) (v0 v1 : Int32) : Inv (F_odds g v0 v1).2 := by
  sorry
theorem I_seed {g : x_SG} (h : Inv g) (v0 : Int32) : Inv (F_seed g v0).2 := by
  sorry
theorem I_feed {g : x_SG} (h : Inv g) (v0 v1 : Int32) : Inv (F_feed g v0 v1).2 := by
  sorry
theorem I_wipe {g : x_SG} (h : Inv g) : Inv (F_wipe g).2 := by
  sorry
theorem I_text {g : x_SG} (h : Inv g) : Inv (F_text g).2 := by
  sorry
theorem I_hold {g : x_SG} (h : Inv g) (v0 v1 : Int32) : Inv (F_hold g v0 v1).2 := by
  sorry
theorem I_as {g : x_SG} (h : Inv g) (v0 v1 : Int32) : Inv (F_as g v0 v1).2 := by
  sorry
theorem I_sheet {g : x_SG} (h : Inv g) (v0 v1 v2 : Int32) : Inv (F_sheet g v0 v1 v2).2 := by
  sorry
theorem I_write {g : x_SG} (h : Inv g) (v0 v1 v2 : Int32) : Inv (F_write g v0 v1 v2).2 := by
  sorry
theorem I_copy {g : x_SG} (h : Inv g) (v0 v1 v2 v3 v4 : Int32) : Inv (F_copy g v0 v1 v2 v3 v4).2 := by
  sorry
theorem I_load {g : x_SG} (h : Inv g) (v0 : Int32) : Inv (F_load g v0).2 := by
  sorry
theorem I_judge {g : x_SG} (h : Inv g) (v0 : Int32) : Inv (F_judge g v0).2 := by
  sorry
theorem I_image {g : x_SG} (h : Inv g) : Inv (F_image g).2 := by
  sorry
theorem I_undo {g : x_SG} (h : Inv g) : Inv (F_undo g).2 := by
  sorry
theorem I_tear {g : x_SG} (h : Inv g) : Inv (F_tear g).2 := by
  sorry
theorem I_count {g : x_SG} (h : Inv g) (v0 : Int32) : Inv (F_count g v0).2 := by
  sorry
theorem I_status {g : x_SG} (h : Inv g) (v0 : Int32) : Inv (F_status g v0).2 := by
  sorry
