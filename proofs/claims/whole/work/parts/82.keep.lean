/-! the search's rows through the other calls -/
section KN
variable {g g' : xSt} {b : Bool} {a1 a2 a3 a4 a5 : Int32}
theorem k_0 (W : xWf g) (h : O_0 a1 a2 a3 a4 a5 g = some (b, g')) : zSame g g' := by
  unfold O_0 at h
  exact xbE2 h fun v1 g1 h1 h => xbE2 h fun v2 g2 h2 h => by
    cases h
    have f1 := (e_X11_feed (d := 0) W h1).2
    have f2 := (e_X12_feed (d := 0) (f1.wf W) h2).2
    exact (zSame_fr f1 (fun o x y => by first | exact List.not_mem_nil | (simp only [List.mem_cons, List.not_mem_nil, or_false]; omega)) (fun o k x y => by first | exact List.not_mem_nil | (simp only [List.mem_cons, List.not_mem_nil, or_false, Prod.mk.injEq]; omega))).tr (zSame_fr f2 (fun o x y => by first | exact List.not_mem_nil | (simp only [List.mem_cons, List.not_mem_nil, or_false]; omega)) (fun o k x y => by first | exact List.not_mem_nil | (simp only [List.mem_cons, List.not_mem_nil, or_false, Prod.mk.injEq]; omega)))
theorem k_1 (W : xWf g) (h : O_1 a1 a2 a3 a4 a5 g = some (b, g')) : zSame g g' := by
  unfold O_1 at h
  exact xbE2 h fun v1 g1 h1 h => xbE2 h fun v2 g2 h2 h => by
    cases h
    have f1 := (e_X11_end (d := 0) W h1).2
    have f2 := (e_X12_end (d := 0) (f1.wf W) h2).2
    exact (zSame_fr f1 (fun o x y => by first | exact List.not_mem_nil | (simp only [List.mem_cons, List.not_mem_nil, or_false]; omega)) (fun o k x y => by first | exact List.not_mem_nil | (simp only [List.mem_cons, List.not_mem_nil, or_false, Prod.mk.injEq]; omega))).tr (zSame_fr f2 (fun o x y => by first | exact List.not_mem_nil | (simp only [List.mem_cons, List.not_mem_nil, or_false]; omega)) (fun o k x y => by first | exact List.not_mem_nil | (simp only [List.mem_cons, List.not_mem_nil, or_false, Prod.mk.injEq]; omega)))
theorem k_3 (W : xWf g) (h : O_3 a1 a2 a3 a4 a5 g = some (b, g')) : zSame g g' := by
  unfold O_3 at h
  cases h
  exact zSame.refl _
theorem k_4 (W : xWf g) (h : O_4 a1 a2 a3 a4 a5 g = some (b, g')) : zSame g g' := by
  unfold O_4 at h
  exact xbE2 h fun v1 g1 h1 h => xbE2 h fun v2 g2 h2 h => by
    cases h
    have f1 := (e_X11_weigh (d := 0) W h1).2
    have f2 := (e_X12_weigh (d := 0) (f1.wf W) h2).2
    exact (zSame_fr f1 (fun o x y => by first | exact List.not_mem_nil | (simp only [List.mem_cons, List.not_mem_nil, or_false]; omega)) (fun o k x y => by first | exact List.not_mem_nil | (simp only [List.mem_cons, List.not_mem_nil, or_false, Prod.mk.injEq]; omega))).tr (zSame_fr f2 (fun o x y => by first | exact List.not_mem_nil | (simp only [List.mem_cons, List.not_mem_nil, or_false]; omega)) (fun o k x y => by first | exact List.not_mem_nil | (simp only [List.mem_cons, List.not_mem_nil, or_false, Prod.mk.injEq]; omega)))
theorem k_5 (W : xWf g) (h : O_5 a1 a2 a3 a4 a5 g = some (b, g')) : zSame g g' := by
  unfold O_5 at h
  exact xbE2 h fun v1 g1 h1 h => xbE2 h fun v2 g2 h2 h => by
    cases h
    have f1 := (e_X11_told (d := 0) W h1).2
    have f2 := (e_X12_told (d := 0) (f1.wf W) h2).2
    exact (zSame_fr f1 (fun o x y => by first | exact List.not_mem_nil | (simp only [List.mem_cons, List.not_mem_nil, or_false]; omega)) (fun o k x y => by first | exact List.not_mem_nil | (simp only [List.mem_cons, List.not_mem_nil, or_false, Prod.mk.injEq]; omega))).tr (zSame_fr f2 (fun o x y => by first | exact List.not_mem_nil | (simp only [List.mem_cons, List.not_mem_nil, or_false]; omega)) (fun o k x y => by first | exact List.not_mem_nil | (simp only [List.mem_cons, List.not_mem_nil, or_false, Prod.mk.injEq]; omega)))
theorem k_6 (W : xWf g) (h : O_6 a1 a2 a3 a4 a5 g = some (b, g')) : zSame g g' := by
  unfold O_6 at h
  exact xbE1 h fun v1 h1 h => xbE1 h fun v2 h2 h => by
    cases h
    exact zSame.refl _
theorem k_7 (W : xWf g) (h : O_7 a1 a2 a3 a4 a5 g = some (b, g')) : zSame g g' := by
  unfold O_7 at h
  exact xbE2 h fun v1 g1 h1 h => xbE2 h fun v2 g2 h2 h => by
    cases h
    have f1 := (e_X11_wet (d := 0) W h1).2
    have f2 := (e_X12_wet (d := 0) (f1.wf W) h2).2
    exact (zSame_fr f1 (fun o x y => by first | exact List.not_mem_nil | (simp only [List.mem_cons, List.not_mem_nil, or_false]; omega)) (fun o k x y => by first | exact List.not_mem_nil | (simp only [List.mem_cons, List.not_mem_nil, or_false, Prod.mk.injEq]; omega))).tr (zSame_fr f2 (fun o x y => by first | exact List.not_mem_nil | (simp only [List.mem_cons, List.not_mem_nil, or_false]; omega)) (fun o k x y => by first | exact List.not_mem_nil | (simp only [List.mem_cons, List.not_mem_nil, or_false, Prod.mk.injEq]; omega)))
theorem k_8 (W : xWf g) (h : O_8 a1 a2 a3 a4 a5 g = some (b, g')) : zSame g g' := by
  unfold O_8 at h
  exact xbE2 h fun v1 g1 h1 h => xbE2 h fun v2 g2 h2 h => by
    cases h
    have f1 := (e_X11_untell (d := 0) W h1).2
    have f2 := (e_X12_untell (d := 0) (f1.wf W) h2).2
    exact (zSame_fr f1 (fun o x y => by first | exact List.not_mem_nil | (simp only [List.mem_cons, List.not_mem_nil, or_false]; omega)) (fun o k x y => by first | exact List.not_mem_nil | (simp only [List.mem_cons, List.not_mem_nil, or_false, Prod.mk.injEq]; omega))).tr (zSame_fr f2 (fun o x y => by first | exact List.not_mem_nil | (simp only [List.mem_cons, List.not_mem_nil, or_false]; omega)) (fun o k x y => by first | exact List.not_mem_nil | (simp only [List.mem_cons, List.not_mem_nil, or_false, Prod.mk.injEq]; omega)))
theorem k_9 (W : xWf g) (h : O_9 a1 a2 a3 a4 a5 g = some (b, g')) : zSame g g' := by
  unfold O_9 at h
  exact xbE2 h fun v1 g1 h1 h => xbE2 h fun v2 g2 h2 h => by
    cases h
    have f1 := (e_X11_later (d := 0) W h1).2
    have f2 := (e_X12_later (d := 0) (f1.wf W) h2).2
    exact (zSame_fr f1 (fun o x y => by first | exact List.not_mem_nil | (simp only [List.mem_cons, List.not_mem_nil, or_false]; omega)) (fun o k x y => by first | exact List.not_mem_nil | (simp only [List.mem_cons, List.not_mem_nil, or_false, Prod.mk.injEq]; omega))).tr (zSame_fr f2 (fun o x y => by first | exact List.not_mem_nil | (simp only [List.mem_cons, List.not_mem_nil, or_false]; omega)) (fun o k x y => by first | exact List.not_mem_nil | (simp only [List.mem_cons, List.not_mem_nil, or_false, Prod.mk.injEq]; omega)))
theorem k_10 (W : xWf g) (h : O_10 a1 a2 a3 a4 a5 g = some (b, g')) : zSame g g' := by
  unfold O_10 at h
  exact xbE2 h fun v1 g1 h1 h => xbE2 h fun v2 g2 h2 h => by
    cases h
    have f1 := (e_X11_left (d := 0) W h1).2
    have f2 := (e_X12_left (d := 0) (f1.wf W) h2).2
    exact (zSame_fr f1 (fun o x y => by first | exact List.not_mem_nil | (simp only [List.mem_cons, List.not_mem_nil, or_false]; omega)) (fun o k x y => by first | exact List.not_mem_nil | (simp only [List.mem_cons, List.not_mem_nil, or_false, Prod.mk.injEq]; omega))).tr (zSame_fr f2 (fun o x y => by first | exact List.not_mem_nil | (simp only [List.mem_cons, List.not_mem_nil, or_false]; omega)) (fun o k x y => by first | exact List.not_mem_nil | (simp only [List.mem_cons, List.not_mem_nil, or_false, Prod.mk.injEq]; omega)))
theorem k_11 (W : xWf g) (h : O_11 a1 a2 a3 a4 a5 g = some (b, g')) : zSame g g' := by
  unfold O_11 at h
  exact xbE2 h fun v1 g1 h1 h => xbE2 h fun v2 g2 h2 h => by
    cases h
    have f1 := (e_X11_struck (d := 0) W h1).2
    have f2 := (e_X12_struck (d := 0) (f1.wf W) h2).2
    exact (zSame_fr f1 (fun o x y => by first | exact List.not_mem_nil | (simp only [List.mem_cons, List.not_mem_nil, or_false]; omega)) (fun o k x y => by first | exact List.not_mem_nil | (simp only [List.mem_cons, List.not_mem_nil, or_false, Prod.mk.injEq]; omega))).tr (zSame_fr f2 (fun o x y => by first | exact List.not_mem_nil | (simp only [List.mem_cons, List.not_mem_nil, or_false]; omega)) (fun o k x y => by first | exact List.not_mem_nil | (simp only [List.mem_cons, List.not_mem_nil, or_false, Prod.mk.injEq]; omega)))
theorem k_12 (W : xWf g) (h : O_12 a1 a2 a3 a4 a5 g = some (b, g')) : zSame g g' := by
  unfold O_12 at h
  exact xbE2 h fun v1 g1 h1 h => xbE2 h fun v2 g2 h2 h => by
    cases h
    have f1 := (e_X11_place (d := 0) W h1).2
    have f2 := (e_X12_place (d := 0) (f1.wf W) h2).2
    exact (zSame_fr f1 (fun o x y => by first | exact List.not_mem_nil | (simp only [List.mem_cons, List.not_mem_nil, or_false]; omega)) (fun o k x y => by first | exact List.not_mem_nil | (simp only [List.mem_cons, List.not_mem_nil, or_false, Prod.mk.injEq]; omega))).tr (zSame_fr f2 (fun o x y => by first | exact List.not_mem_nil | (simp only [List.mem_cons, List.not_mem_nil, or_false]; omega)) (fun o k x y => by first | exact List.not_mem_nil | (simp only [List.mem_cons, List.not_mem_nil, or_false, Prod.mk.injEq]; omega)))
theorem k_13 (W : xWf g) (h : O_13 a1 a2 a3 a4 a5 g = some (b, g')) : zSame g g' := by
  unfold O_13 at h
  exact xbE2 h fun v1 g1 h1 h => xbE2 h fun v2 g2 h2 h => by
    cases h
    have f1 := (e_X11_stand (d := 0) W h1).2
    have f2 := (e_X12_stand (d := 0) (f1.wf W) h2).2
    exact (zSame_fr f1 (fun o x y => by first | exact List.not_mem_nil | (simp only [List.mem_cons, List.not_mem_nil, or_false]; omega)) (fun o k x y => by first | exact List.not_mem_nil | (simp only [List.mem_cons, List.not_mem_nil, or_false, Prod.mk.injEq]; omega))).tr (zSame_fr f2 (fun o x y => by first | exact List.not_mem_nil | (simp only [List.mem_cons, List.not_mem_nil, or_false]; omega)) (fun o k x y => by first | exact List.not_mem_nil | (simp only [List.mem_cons, List.not_mem_nil, or_false, Prod.mk.injEq]; omega)))
theorem k_14 (W : xWf g) (h : O_14 a1 a2 a3 a4 a5 g = some (b, g')) : zSame g g' := by
  unfold O_14 at h
  exact xbE2 h fun v1 g1 h1 h => xbE2 h fun v2 g2 h2 h => by
    cases h
    have f1 := (e_X11_surely (d := 0) W h1).2
    have f2 := (e_X12_surely (d := 0) (f1.wf W) h2).2
    exact (zSame_fr f1 (fun o x y => by first | exact List.not_mem_nil | (simp only [List.mem_cons, List.not_mem_nil, or_false]; omega)) (fun o k x y => by first | exact List.not_mem_nil | (simp only [List.mem_cons, List.not_mem_nil, or_false, Prod.mk.injEq]; omega))).tr (zSame_fr f2 (fun o x y => by first | exact List.not_mem_nil | (simp only [List.mem_cons, List.not_mem_nil, or_false]; omega)) (fun o k x y => by first | exact List.not_mem_nil | (simp only [List.mem_cons, List.not_mem_nil, or_false, Prod.mk.injEq]; omega)))
theorem k_19 (W : xWf g) (h : O_19 a1 a2 a3 a4 a5 g = some (b, g')) : zSame g g' := by
  unfold O_19 at h
  exact xbE2 h fun v1 g1 h1 h => xbE2 h fun v2 g2 h2 h => by
    cases h
    have f1 := (e_X11_answers (d := 0) W h1).2
    have f2 := (e_X12_answers (d := 0) (f1.wf W) h2).2
    exact (zSame_fr f1 (fun o x y => by first | exact List.not_mem_nil | (simp only [List.mem_cons, List.not_mem_nil, or_false]; omega)) (fun o k x y => by first | exact List.not_mem_nil | (simp only [List.mem_cons, List.not_mem_nil, or_false, Prod.mk.injEq]; omega))).tr (zSame_fr f2 (fun o x y => by first | exact List.not_mem_nil | (simp only [List.mem_cons, List.not_mem_nil, or_false]; omega)) (fun o k x y => by first | exact List.not_mem_nil | (simp only [List.mem_cons, List.not_mem_nil, or_false, Prod.mk.injEq]; omega)))
theorem k_20 (W : xWf g) (h : O_20 a1 a2 a3 a4 a5 g = some (b, g')) : zSame g g' := by
  unfold O_20 at h
  exact xbE2 h fun v1 g1 h1 h => xbE2 h fun v2 g2 h2 h => by
    cases h
    have f1 := (e_X11_judged (d := 0) W h1).2
    have f2 := (e_X12_judged (d := 0) (f1.wf W) h2).2
    exact (zSame_fr f1 (fun o x y => by first | exact List.not_mem_nil | (simp only [List.mem_cons, List.not_mem_nil, or_false]; omega)) (fun o k x y => by first | exact List.not_mem_nil | (simp only [List.mem_cons, List.not_mem_nil, or_false, Prod.mk.injEq]; omega))).tr (zSame_fr f2 (fun o x y => by first | exact List.not_mem_nil | (simp only [List.mem_cons, List.not_mem_nil, or_false]; omega)) (fun o k x y => by first | exact List.not_mem_nil | (simp only [List.mem_cons, List.not_mem_nil, or_false, Prod.mk.injEq]; omega)))
theorem k_22 (W : xWf g) (h : O_22 a1 a2 a3 a4 a5 g = some (b, g')) : zSame g g' := by
  unfold O_22 at h
  exact xbE2 h fun v1 g1 h1 h => xbE2 h fun v2 g2 h2 h => by
    cases h
    have f1 := (e_X11_odds (d := 0) W h1).2
    have f2 := (e_X12_odds (d := 0) (f1.wf W) h2).2
    exact (zSame_fr f1 (fun o x y => by first | exact List.not_mem_nil | (simp only [List.mem_cons, List.not_mem_nil, or_false]; omega)) (fun o k x y => by first | exact List.not_mem_nil | (simp only [List.mem_cons, List.not_mem_nil, or_false, Prod.mk.injEq]; omega))).tr (zSame_fr f2 (fun o x y => by first | exact List.not_mem_nil | (simp only [List.mem_cons, List.not_mem_nil, or_false]; omega)) (fun o k x y => by first | exact List.not_mem_nil | (simp only [List.mem_cons, List.not_mem_nil, or_false, Prod.mk.injEq]; omega)))
theorem k_23 (W : xWf g) (h : O_23 a1 a2 a3 a4 a5 g = some (b, g')) : zSame g g' := by
  unfold O_23 at h
  exact xbE2 h fun v1 g1 h1 h => xbE2 h fun v2 g2 h2 h => by
    cases h
    have f1 := (e_X11_evenest (d := 0) W h1).2
    have f2 := (e_X12_evenest (d := 0) (f1.wf W) h2).2
    exact (zSame_fr f1 (fun o x y => by first | exact List.not_mem_nil | (simp only [List.mem_cons, List.not_mem_nil, or_false]; omega)) (fun o k x y => by first | exact List.not_mem_nil | (simp only [List.mem_cons, List.not_mem_nil, or_false, Prod.mk.injEq]; omega))).tr (zSame_fr f2 (fun o x y => by first | exact List.not_mem_nil | (simp only [List.mem_cons, List.not_mem_nil, or_false]; omega)) (fun o k x y => by first | exact List.not_mem_nil | (simp only [List.mem_cons, List.not_mem_nil, or_false, Prod.mk.injEq]; omega)))
theorem k_24 (W : xWf g) (h : O_24 a1 a2 a3 a4 a5 g = some (b, g')) : zSame g g' := by
  unfold O_24 at h
  exact xbE2 h fun v1 g1 h1 h => xbE2 h fun v2 g2 h2 h => by
    cases h
    have f1 := (e_X11_covers (d := 0) W h1).2
    have f2 := (e_X12_covers (d := 0) (f1.wf W) h2).2
    exact (zSame_fr f1 (fun o x y => by first | exact List.not_mem_nil | (simp only [List.mem_cons, List.not_mem_nil, or_false]; omega)) (fun o k x y => by first | exact List.not_mem_nil | (simp only [List.mem_cons, List.not_mem_nil, or_false, Prod.mk.injEq]; omega))).tr (zSame_fr f2 (fun o x y => by first | exact List.not_mem_nil | (simp only [List.mem_cons, List.not_mem_nil, or_false]; omega)) (fun o k x y => by first | exact List.not_mem_nil | (simp only [List.mem_cons, List.not_mem_nil, or_false, Prod.mk.injEq]; omega)))
theorem k_25 (W : xWf g) (h : O_25 a1 a2 a3 a4 a5 g = some (b, g')) : zSame g g' := by
  unfold O_25 at h
  exact xbE2 h fun v1 g1 h1 h => xbE2 h fun v2 g2 h2 h => by
    cases h
    have f1 := (e_X11_sits (d := 0) W h1).2
    have f2 := (e_X12_sits (d := 0) (f1.wf W) h2).2
    exact (zSame_fr f1 (fun o x y => by first | exact List.not_mem_nil | (simp only [List.mem_cons, List.not_mem_nil, or_false]; omega)) (fun o k x y => by first | exact List.not_mem_nil | (simp only [List.mem_cons, List.not_mem_nil, or_false, Prod.mk.injEq]; omega))).tr (zSame_fr f2 (fun o x y => by first | exact List.not_mem_nil | (simp only [List.mem_cons, List.not_mem_nil, or_false]; omega)) (fun o k x y => by first | exact List.not_mem_nil | (simp only [List.mem_cons, List.not_mem_nil, or_false, Prod.mk.injEq]; omega)))
theorem k_26 (W : xWf g) (h : O_26 a1 a2 a3 a4 a5 g = some (b, g')) : zSame g g' := by
  unfold O_26 at h
  exact xbE2 h fun v1 g1 h1 h => xbE1 h fun v2 h2 h => by
    cases h
    have f1 := (e_X11_led (d := 0) W h1).2
    exact zSame_fr f1 (fun o x y => by first | exact List.not_mem_nil | (simp only [List.mem_cons, List.not_mem_nil, or_false]; omega)) (fun o k x y => by first | exact List.not_mem_nil | (simp only [List.mem_cons, List.not_mem_nil, or_false, Prod.mk.injEq]; omega))
theorem k_27 (W : xWf g) (h : O_27 a1 a2 a3 a4 a5 g = some (b, g')) : zSame g g' := by
  unfold O_27 at h
  exact xbE2 h fun v1 g1 h1 h => xbE1 h fun v2 h2 h => by
    cases h
    have f1 := (e_X11_doubts (d := 0) W h1).2
    exact zSame_fr f1 (fun o x y => by first | exact List.not_mem_nil | (simp only [List.mem_cons, List.not_mem_nil, or_false]; omega)) (fun o k x y => by first | exact List.not_mem_nil | (simp only [List.mem_cons, List.not_mem_nil, or_false, Prod.mk.injEq]; omega))
theorem k_28 (W : xWf g) (h : O_28 a1 a2 a3 a4 a5 g = some (b, g')) : zSame g g' := by
  unfold O_28 at h
  exact xbE2 h fun v1 g1 h1 h => xbE2 h fun v2 g2 h2 h => by
    cases h
    have f1 := (e_X11_twins (d := 0) W h1).2
    have f2 := (e_X12_twins (d := 0) (f1.wf W) h2).2
    exact (zSame_fr f1 (fun o x y => by first | exact List.not_mem_nil | (simp only [List.mem_cons, List.not_mem_nil, or_false]; omega)) (fun o k x y => by first | exact List.not_mem_nil | (simp only [List.mem_cons, List.not_mem_nil, or_false, Prod.mk.injEq]; omega))).tr (zSame_fr f2 (fun o x y => by first | exact List.not_mem_nil | (simp only [List.mem_cons, List.not_mem_nil, or_false]; omega)) (fun o k x y => by first | exact List.not_mem_nil | (simp only [List.mem_cons, List.not_mem_nil, or_false, Prod.mk.injEq]; omega)))
theorem k_29 (W : xWf g) (h : O_29 a1 a2 a3 a4 a5 g = some (b, g')) : zSame g g' := by
  unfold O_29 at h
  exact xbE2 h fun v1 g1 h1 h => xbE2 h fun v2 g2 h2 h => by
    cases h
    have f1 := (e_X11_ladder (d := 0) W h1).2
    have f2 := (e_X12_ladder (d := 0) (f1.wf W) h2).2
    exact (zSame_fr f1 (fun o x y => by first | exact List.not_mem_nil | (simp only [List.mem_cons, List.not_mem_nil, or_false]; omega)) (fun o k x y => by first | exact List.not_mem_nil | (simp only [List.mem_cons, List.not_mem_nil, or_false, Prod.mk.injEq]; omega))).tr (zSame_fr f2 (fun o x y => by first | exact List.not_mem_nil | (simp only [List.mem_cons, List.not_mem_nil, or_false]; omega)) (fun o k x y => by first | exact List.not_mem_nil | (simp only [List.mem_cons, List.not_mem_nil, or_false, Prod.mk.injEq]; omega)))
theorem k_30 (W : xWf g) (h : O_30 a1 a2 a3 a4 a5 g = some (b, g')) : zSame g g' := by
  unfold O_30 at h
  exact xbE2 h fun v1 g1 h1 h => xbE2 h fun v2 g2 h2 h => by
    cases h
    have f1 := (e_X11_bound (d := 0) W h1).2
    have f2 := (e_X12_bound (d := 0) (f1.wf W) h2).2
    exact (zSame_fr f1 (fun o x y => by first | exact List.not_mem_nil | (simp only [List.mem_cons, List.not_mem_nil, or_false]; omega)) (fun o k x y => by first | exact List.not_mem_nil | (simp only [List.mem_cons, List.not_mem_nil, or_false, Prod.mk.injEq]; omega))).tr (zSame_fr f2 (fun o x y => by first | exact List.not_mem_nil | (simp only [List.mem_cons, List.not_mem_nil, or_false]; omega)) (fun o k x y => by first | exact List.not_mem_nil | (simp only [List.mem_cons, List.not_mem_nil, or_false, Prod.mk.injEq]; omega)))
theorem k_32 (W : xWf g) (h : O_32 a1 a2 a3 a4 a5 g = some (b, g')) : zSame g g' := by
  unfold O_32 at h
  exact xbE1 h fun v1 h1 h => by
    cases h
    exact zSame.refl _
theorem k_33 (W : xWf g) (h : O_33 a1 a2 a3 a4 a5 g = some (b, g')) : zSame g g' := by
  unfold O_33 at h
  exact xbE2 h fun v1 g1 h1 h => xbE2 h fun v2 g2 h2 h => by
    cases h
    have f1 := (e_X11_weights (d := 0) W h1).2
    have f2 := (e_X12_weights (d := 0) (f1.wf W) h2).2
    exact (zSame_fr f1 (fun o x y => by first | exact List.not_mem_nil | (simp only [List.mem_cons, List.not_mem_nil, or_false]; omega)) (fun o k x y => by first | exact List.not_mem_nil | (simp only [List.mem_cons, List.not_mem_nil, or_false, Prod.mk.injEq]; omega))).tr (zSame_fr f2 (fun o x y => by first | exact List.not_mem_nil | (simp only [List.mem_cons, List.not_mem_nil, or_false]; omega)) (fun o k x y => by first | exact List.not_mem_nil | (simp only [List.mem_cons, List.not_mem_nil, or_false, Prod.mk.injEq]; omega)))
theorem k_34 (W : xWf g) (h : O_34 a1 a2 a3 a4 a5 g = some (b, g')) : zSame g g' := by
  unfold O_34 at h
  exact xbE2 h fun v1 g1 h1 h => xbE2 h fun v2 g2 h2 h => by
    cases h
    have f1 := (e_X11_weight (d := 0) W h1).2
    have f2 := (e_X12_weight (d := 0) (f1.wf W) h2).2
    exact (zSame_fr f1 (fun o x y => by first | exact List.not_mem_nil | (simp only [List.mem_cons, List.not_mem_nil, or_false]; omega)) (fun o k x y => by first | exact List.not_mem_nil | (simp only [List.mem_cons, List.not_mem_nil, or_false, Prod.mk.injEq]; omega))).tr (zSame_fr f2 (fun o x y => by first | exact List.not_mem_nil | (simp only [List.mem_cons, List.not_mem_nil, or_false]; omega)) (fun o k x y => by first | exact List.not_mem_nil | (simp only [List.mem_cons, List.not_mem_nil, or_false, Prod.mk.injEq]; omega)))
theorem k_35 (W : xWf g) (h : O_35 a1 a2 a3 a4 a5 g = some (b, g')) : zSame g g' := by
  unfold O_35 at h
  exact xbE2 h fun v1 g1 h1 h => xbE2 h fun v2 g2 h2 h => by
    cases h
    have f1 := (e_X11_could (d := 0) W h1).2
    have f2 := (e_X12_could (d := 0) (f1.wf W) h2).2
    exact (zSame_fr f1 (fun o x y => by first | exact List.not_mem_nil | (simp only [List.mem_cons, List.not_mem_nil, or_false]; omega)) (fun o k x y => by first | exact List.not_mem_nil | (simp only [List.mem_cons, List.not_mem_nil, or_false, Prod.mk.injEq]; omega))).tr (zSame_fr f2 (fun o x y => by first | exact List.not_mem_nil | (simp only [List.mem_cons, List.not_mem_nil, or_false]; omega)) (fun o k x y => by first | exact List.not_mem_nil | (simp only [List.mem_cons, List.not_mem_nil, or_false, Prod.mk.injEq]; omega)))
theorem k_36 (W : xWf g) (h : O_36 a1 a2 a3 a4 a5 g = some (b, g')) : zSame g g' := by
  unfold O_36 at h
  exact xbE2 h fun v1 g1 h1 h => xbE2 h fun v2 g2 h2 h => by
    cases h
    have f1 := (e_X11_stones (d := 0) W h1).2
    have f2 := (e_X12_stones (d := 0) (f1.wf W) h2).2
    exact (zSame_fr f1 (fun o x y => by first | exact List.not_mem_nil | (simp only [List.mem_cons, List.not_mem_nil, or_false]; omega)) (fun o k x y => by first | exact List.not_mem_nil | (simp only [List.mem_cons, List.not_mem_nil, or_false, Prod.mk.injEq]; omega))).tr (zSame_fr f2 (fun o x y => by first | exact List.not_mem_nil | (simp only [List.mem_cons, List.not_mem_nil, or_false]; omega)) (fun o k x y => by first | exact List.not_mem_nil | (simp only [List.mem_cons, List.not_mem_nil, or_false, Prod.mk.injEq]; omega)))
theorem k_37 (W : xWf g) (h : O_37 a1 a2 a3 a4 a5 g = some (b, g')) : zSame g g' := by
  unfold O_37 at h
  exact xbE2 h fun v1 g1 h1 h => xbE2 h fun v2 g2 h2 h => by
    cases h
    have f1 := (e_X11_heaps (d := 0) W h1).2
    have f2 := (e_X12_heaps (d := 0) (f1.wf W) h2).2
    exact (zSame_fr f1 (fun o x y => by first | exact List.not_mem_nil | (simp only [List.mem_cons, List.not_mem_nil, or_false]; omega)) (fun o k x y => by first | exact List.not_mem_nil | (simp only [List.mem_cons, List.not_mem_nil, or_false, Prod.mk.injEq]; omega))).tr (zSame_fr f2 (fun o x y => by first | exact List.not_mem_nil | (simp only [List.mem_cons, List.not_mem_nil, or_false]; omega)) (fun o k x y => by first | exact List.not_mem_nil | (simp only [List.mem_cons, List.not_mem_nil, or_false, Prod.mk.injEq]; omega)))
theorem k_38 (W : xWf g) (h : O_38 a1 a2 a3 a4 a5 g = some (b, g')) : zSame g g' := by
  unfold O_38 at h
  exact xbE1 h fun v1 h1 h => by
    cases h
    exact zSame.refl _
theorem k_41 (W : xWf g) (h : O_41 a1 a2 a3 a4 a5 g = some (b, g')) : zSame g g' := by
  unfold O_41 at h
  exact xbE1 h fun v1 h1 h => xbE1 h fun v2 h2 h => by
    cases h
    exact zSame.refl _
end KN
