noncomputable def kDH (d : Int) (x : Int → Int) (nx : Int) (y : Int → Int) (ny : Int) (s : Int → Int) (m h : Int) : Int := if h = 0 then d else if h = 1 then kDigH d x nx s m else kDigH (kDigH d x nx s m) y ny s m
theorem kDH_stepC {d : Int} {M : kM} {h : Int} (hh : 0 ≤ h ∧ h < 2) : kDH d (M 3) (M 0 1) (M 4) (M 1 1) (M 5) (M 2 1) (h + 1) = kDigH (kDH d (M 3) (M 0 1) (M 4) (M 1 1) (M 5) (M 2 1) h) (M (h + 3)) (M h 1) (M 5) (M 2 1) := by
  rcases (show h = 0 ∨ h = 1 by omega) with rfl | rfl
  · rfl
  · rfl
