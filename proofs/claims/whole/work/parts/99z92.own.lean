/-! the reader's own words through the other calls -/
section KW
variable {g g' : xSt} {b : Bool} {a1 a2 a3 a4 a5 : Int32}
def zOw (g g' : xSt) : Prop := ∀ k, xL g' 21 k = xL g 21 k
theorem zOw.refl (g : xSt) : zOw g g := fun _ => rfl
theorem zOw.tr {g1 : xSt} (h : zOw g g1) (h2 : zOw g1 g') : zOw g g' := fun k => (h2 k).trans (h k)
theorem zOw_fr {A : List Nat} {Bb : List (Nat × Nat)} (h : xFr A Bb g g') (hA : 21 ∉ A) (hB : ∀ k, (21, k) ∉ Bb) : zOw g g' := fun k => (h.2.2.2 21 hA k (hB k)).2
theorem w_0 (W : xWf g) (h : O_0 a1 a2 a3 a4 a5 g = some (b, g')) : zOw g g' := by
  unfold O_0 at h
  exact xbE2 h fun v1 g1 h1 h => xbE2 h fun v2 g2 h2 h => by
    cases h
    have f1 := (e_X11_feed (d := 0) W h1).2
    have f2 := (e_X12_feed (d := 0) (f1.wf W) h2).2
    exact (zOw_fr f1 (by first | decide | exact List.not_mem_nil | (simp only [List.mem_cons, List.not_mem_nil, or_false]; omega)) (fun k => by first | exact List.not_mem_nil | (simp only [List.mem_cons, List.not_mem_nil, or_false, Prod.mk.injEq]; omega) | simp)).tr (zOw_fr f2 (by first | decide | exact List.not_mem_nil | (simp only [List.mem_cons, List.not_mem_nil, or_false]; omega)) (fun k => by first | exact List.not_mem_nil | (simp only [List.mem_cons, List.not_mem_nil, or_false, Prod.mk.injEq]; omega) | simp))
theorem w_1 (W : xWf g) (h : O_1 a1 a2 a3 a4 a5 g = some (b, g')) : zOw g g' := by
  unfold O_1 at h
  exact xbE2 h fun v1 g1 h1 h => xbE2 h fun v2 g2 h2 h => by
    cases h
    have f1 := (e_X11_end (d := 0) W h1).2
    have f2 := (e_X12_end (d := 0) (f1.wf W) h2).2
    exact (zOw_fr f1 (by first | decide | exact List.not_mem_nil | (simp only [List.mem_cons, List.not_mem_nil, or_false]; omega)) (fun k => by first | exact List.not_mem_nil | (simp only [List.mem_cons, List.not_mem_nil, or_false, Prod.mk.injEq]; omega) | simp)).tr (zOw_fr f2 (by first | decide | exact List.not_mem_nil | (simp only [List.mem_cons, List.not_mem_nil, or_false]; omega)) (fun k => by first | exact List.not_mem_nil | (simp only [List.mem_cons, List.not_mem_nil, or_false, Prod.mk.injEq]; omega) | simp))
theorem w_3 (W : xWf g) (h : O_3 a1 a2 a3 a4 a5 g = some (b, g')) : zOw g g' := by
  unfold O_3 at h
  cases h
  exact zOw.refl _
theorem w_4 (W : xWf g) (h : O_4 a1 a2 a3 a4 a5 g = some (b, g')) : zOw g g' := by
  unfold O_4 at h
  exact xbE2 h fun v1 g1 h1 h => xbE2 h fun v2 g2 h2 h => by
    cases h
    have f1 := (e_X11_weigh (d := 0) W h1).2
    have f2 := (e_X12_weigh (d := 0) (f1.wf W) h2).2
    exact (zOw_fr f1 (by first | decide | exact List.not_mem_nil | (simp only [List.mem_cons, List.not_mem_nil, or_false]; omega)) (fun k => by first | exact List.not_mem_nil | (simp only [List.mem_cons, List.not_mem_nil, or_false, Prod.mk.injEq]; omega) | simp)).tr (zOw_fr f2 (by first | decide | exact List.not_mem_nil | (simp only [List.mem_cons, List.not_mem_nil, or_false]; omega)) (fun k => by first | exact List.not_mem_nil | (simp only [List.mem_cons, List.not_mem_nil, or_false, Prod.mk.injEq]; omega) | simp))
theorem w_5 (W : xWf g) (h : O_5 a1 a2 a3 a4 a5 g = some (b, g')) : zOw g g' := by
  unfold O_5 at h
  exact xbE2 h fun v1 g1 h1 h => xbE2 h fun v2 g2 h2 h => by
    cases h
    have f1 := (e_X11_told (d := 0) W h1).2
    have f2 := (e_X12_told (d := 0) (f1.wf W) h2).2
    exact (zOw_fr f1 (by first | decide | exact List.not_mem_nil | (simp only [List.mem_cons, List.not_mem_nil, or_false]; omega)) (fun k => by first | exact List.not_mem_nil | (simp only [List.mem_cons, List.not_mem_nil, or_false, Prod.mk.injEq]; omega) | simp)).tr (zOw_fr f2 (by first | decide | exact List.not_mem_nil | (simp only [List.mem_cons, List.not_mem_nil, or_false]; omega)) (fun k => by first | exact List.not_mem_nil | (simp only [List.mem_cons, List.not_mem_nil, or_false, Prod.mk.injEq]; omega) | simp))
theorem w_6 (W : xWf g) (h : O_6 a1 a2 a3 a4 a5 g = some (b, g')) : zOw g g' := by
  unfold O_6 at h
  exact xbE1 h fun v1 h1 h => xbE1 h fun v2 h2 h => by
    cases h
    exact zOw.refl _
theorem w_7 (W : xWf g) (h : O_7 a1 a2 a3 a4 a5 g = some (b, g')) : zOw g g' := by
  unfold O_7 at h
  exact xbE2 h fun v1 g1 h1 h => xbE2 h fun v2 g2 h2 h => by
    cases h
    have f1 := (e_X11_wet (d := 0) W h1).2
    have f2 := (e_X12_wet (d := 0) (f1.wf W) h2).2
    exact (zOw_fr f1 (by first | decide | exact List.not_mem_nil | (simp only [List.mem_cons, List.not_mem_nil, or_false]; omega)) (fun k => by first | exact List.not_mem_nil | (simp only [List.mem_cons, List.not_mem_nil, or_false, Prod.mk.injEq]; omega) | simp)).tr (zOw_fr f2 (by first | decide | exact List.not_mem_nil | (simp only [List.mem_cons, List.not_mem_nil, or_false]; omega)) (fun k => by first | exact List.not_mem_nil | (simp only [List.mem_cons, List.not_mem_nil, or_false, Prod.mk.injEq]; omega) | simp))
theorem w_8 (W : xWf g) (h : O_8 a1 a2 a3 a4 a5 g = some (b, g')) : zOw g g' := by
  unfold O_8 at h
  exact xbE2 h fun v1 g1 h1 h => xbE2 h fun v2 g2 h2 h => by
    cases h
    have f1 := (e_X11_untell (d := 0) W h1).2
    have f2 := (e_X12_untell (d := 0) (f1.wf W) h2).2
    exact (zOw_fr f1 (by first | decide | exact List.not_mem_nil | (simp only [List.mem_cons, List.not_mem_nil, or_false]; omega)) (fun k => by first | exact List.not_mem_nil | (simp only [List.mem_cons, List.not_mem_nil, or_false, Prod.mk.injEq]; omega) | simp)).tr (zOw_fr f2 (by first | decide | exact List.not_mem_nil | (simp only [List.mem_cons, List.not_mem_nil, or_false]; omega)) (fun k => by first | exact List.not_mem_nil | (simp only [List.mem_cons, List.not_mem_nil, or_false, Prod.mk.injEq]; omega) | simp))
theorem w_9 (W : xWf g) (h : O_9 a1 a2 a3 a4 a5 g = some (b, g')) : zOw g g' := by
  unfold O_9 at h
  exact xbE2 h fun v1 g1 h1 h => xbE2 h fun v2 g2 h2 h => by
    cases h
    have f1 := (e_X11_later (d := 0) W h1).2
    have f2 := (e_X12_later (d := 0) (f1.wf W) h2).2
    exact (zOw_fr f1 (by first | decide | exact List.not_mem_nil | (simp only [List.mem_cons, List.not_mem_nil, or_false]; omega)) (fun k => by first | exact List.not_mem_nil | (simp only [List.mem_cons, List.not_mem_nil, or_false, Prod.mk.injEq]; omega) | simp)).tr (zOw_fr f2 (by first | decide | exact List.not_mem_nil | (simp only [List.mem_cons, List.not_mem_nil, or_false]; omega)) (fun k => by first | exact List.not_mem_nil | (simp only [List.mem_cons, List.not_mem_nil, or_false, Prod.mk.injEq]; omega) | simp))
theorem w_10 (W : xWf g) (h : O_10 a1 a2 a3 a4 a5 g = some (b, g')) : zOw g g' := by
  unfold O_10 at h
  exact xbE2 h fun v1 g1 h1 h => xbE2 h fun v2 g2 h2 h => by
    cases h
    have f1 := (e_X11_left (d := 0) W h1).2
    have f2 := (e_X12_left (d := 0) (f1.wf W) h2).2
    exact (zOw_fr f1 (by first | decide | exact List.not_mem_nil | (simp only [List.mem_cons, List.not_mem_nil, or_false]; omega)) (fun k => by first | exact List.not_mem_nil | (simp only [List.mem_cons, List.not_mem_nil, or_false, Prod.mk.injEq]; omega) | simp)).tr (zOw_fr f2 (by first | decide | exact List.not_mem_nil | (simp only [List.mem_cons, List.not_mem_nil, or_false]; omega)) (fun k => by first | exact List.not_mem_nil | (simp only [List.mem_cons, List.not_mem_nil, or_false, Prod.mk.injEq]; omega) | simp))
theorem w_11 (W : xWf g) (h : O_11 a1 a2 a3 a4 a5 g = some (b, g')) : zOw g g' := by
  unfold O_11 at h
  exact xbE2 h fun v1 g1 h1 h => xbE2 h fun v2 g2 h2 h => by
    cases h
    have f1 := (e_X11_struck (d := 0) W h1).2
    have f2 := (e_X12_struck (d := 0) (f1.wf W) h2).2
    exact (zOw_fr f1 (by first | decide | exact List.not_mem_nil | (simp only [List.mem_cons, List.not_mem_nil, or_false]; omega)) (fun k => by first | exact List.not_mem_nil | (simp only [List.mem_cons, List.not_mem_nil, or_false, Prod.mk.injEq]; omega) | simp)).tr (zOw_fr f2 (by first | decide | exact List.not_mem_nil | (simp only [List.mem_cons, List.not_mem_nil, or_false]; omega)) (fun k => by first | exact List.not_mem_nil | (simp only [List.mem_cons, List.not_mem_nil, or_false, Prod.mk.injEq]; omega) | simp))
theorem w_12 (W : xWf g) (h : O_12 a1 a2 a3 a4 a5 g = some (b, g')) : zOw g g' := by
  unfold O_12 at h
  exact xbE2 h fun v1 g1 h1 h => xbE2 h fun v2 g2 h2 h => by
    cases h
    have f1 := (e_X11_place (d := 0) W h1).2
    have f2 := (e_X12_place (d := 0) (f1.wf W) h2).2
    exact (zOw_fr f1 (by first | decide | exact List.not_mem_nil | (simp only [List.mem_cons, List.not_mem_nil, or_false]; omega)) (fun k => by first | exact List.not_mem_nil | (simp only [List.mem_cons, List.not_mem_nil, or_false, Prod.mk.injEq]; omega) | simp)).tr (zOw_fr f2 (by first | decide | exact List.not_mem_nil | (simp only [List.mem_cons, List.not_mem_nil, or_false]; omega)) (fun k => by first | exact List.not_mem_nil | (simp only [List.mem_cons, List.not_mem_nil, or_false, Prod.mk.injEq]; omega) | simp))
theorem w_13 (W : xWf g) (h : O_13 a1 a2 a3 a4 a5 g = some (b, g')) : zOw g g' := by
  unfold O_13 at h
  exact xbE2 h fun v1 g1 h1 h => xbE2 h fun v2 g2 h2 h => by
    cases h
    have f1 := (e_X11_stand (d := 0) W h1).2
    have f2 := (e_X12_stand (d := 0) (f1.wf W) h2).2
    exact (zOw_fr f1 (by first | decide | exact List.not_mem_nil | (simp only [List.mem_cons, List.not_mem_nil, or_false]; omega)) (fun k => by first | exact List.not_mem_nil | (simp only [List.mem_cons, List.not_mem_nil, or_false, Prod.mk.injEq]; omega) | simp)).tr (zOw_fr f2 (by first | decide | exact List.not_mem_nil | (simp only [List.mem_cons, List.not_mem_nil, or_false]; omega)) (fun k => by first | exact List.not_mem_nil | (simp only [List.mem_cons, List.not_mem_nil, or_false, Prod.mk.injEq]; omega) | simp))
theorem w_14 (W : xWf g) (h : O_14 a1 a2 a3 a4 a5 g = some (b, g')) : zOw g g' := by
  unfold O_14 at h
  exact xbE2 h fun v1 g1 h1 h => xbE2 h fun v2 g2 h2 h => by
    cases h
    have f1 := (e_X11_surely (d := 0) W h1).2
    have f2 := (e_X12_surely (d := 0) (f1.wf W) h2).2
    exact (zOw_fr f1 (by first | decide | exact List.not_mem_nil | (simp only [List.mem_cons, List.not_mem_nil, or_false]; omega)) (fun k => by first | exact List.not_mem_nil | (simp only [List.mem_cons, List.not_mem_nil, or_false, Prod.mk.injEq]; omega) | simp)).tr (zOw_fr f2 (by first | decide | exact List.not_mem_nil | (simp only [List.mem_cons, List.not_mem_nil, or_false]; omega)) (fun k => by first | exact List.not_mem_nil | (simp only [List.mem_cons, List.not_mem_nil, or_false, Prod.mk.injEq]; omega) | simp))
theorem w_15 (W : xWf g) (h : O_15 a1 a2 a3 a4 a5 g = some (b, g')) : zOw g g' := by
  unfold O_15 at h
  exact xbE2 h fun v1 g1 h1 h => xbE2 h fun v2 g2 h2 h => by
    cases h
    have f1 := (e_X11_fewest (d := 0) W h1).2
    have f2 := (e_X12_fewest (d := 0) (f1.wf W) h2).2
    exact (zOw_fr f1 (by first | decide | exact List.not_mem_nil | (simp only [List.mem_cons, List.not_mem_nil, or_false]; omega)) (fun k => by first | exact List.not_mem_nil | (simp only [List.mem_cons, List.not_mem_nil, or_false, Prod.mk.injEq]; omega) | simp)).tr (zOw_fr f2 (by first | decide | exact List.not_mem_nil | (simp only [List.mem_cons, List.not_mem_nil, or_false]; omega)) (fun k => by first | exact List.not_mem_nil | (simp only [List.mem_cons, List.not_mem_nil, or_false, Prod.mk.injEq]; omega) | simp))
theorem w_16 (W : xWf g) (h : O_16 a1 a2 a3 a4 a5 g = some (b, g')) : zOw g g' := by
  unfold O_16 at h
  exact xbE2 h fun v1 g1 h1 h => xbE2 h fun v2 g2 h2 h => by
    cases h
    have f1 := (e_X11_next (d := 0) W h1).2
    have f2 := (e_X12_next (d := 0) (f1.wf W) h2).2
    exact (zOw_fr f1 (by first | decide | exact List.not_mem_nil | (simp only [List.mem_cons, List.not_mem_nil, or_false]; omega)) (fun k => by first | exact List.not_mem_nil | (simp only [List.mem_cons, List.not_mem_nil, or_false, Prod.mk.injEq]; omega) | simp)).tr (zOw_fr f2 (by first | decide | exact List.not_mem_nil | (simp only [List.mem_cons, List.not_mem_nil, or_false]; omega)) (fun k => by first | exact List.not_mem_nil | (simp only [List.mem_cons, List.not_mem_nil, or_false, Prod.mk.injEq]; omega) | simp))
theorem w_17 (W : xWf g) (h : O_17 a1 a2 a3 a4 a5 g = some (b, g')) : zOw g g' := by
  unfold O_17 at h
  exact xbE2 h fun v1 g1 h1 h => xbE2 h fun v2 g2 h2 h => by
    cases h
    have f1 := (e_X11_total (d := 0) W h1).2
    have f2 := (e_X12_total (d := 0) (f1.wf W) h2).2
    exact (zOw_fr f1 (by first | decide | exact List.not_mem_nil | (simp only [List.mem_cons, List.not_mem_nil, or_false]; omega)) (fun k => by first | exact List.not_mem_nil | (simp only [List.mem_cons, List.not_mem_nil, or_false, Prod.mk.injEq]; omega) | simp)).tr (zOw_fr f2 (by first | decide | exact List.not_mem_nil | (simp only [List.mem_cons, List.not_mem_nil, or_false]; omega)) (fun k => by first | exact List.not_mem_nil | (simp only [List.mem_cons, List.not_mem_nil, or_false, Prod.mk.injEq]; omega) | simp))
theorem w_18 (W : xWf g) (h : O_18 a1 a2 a3 a4 a5 g = some (b, g')) : zOw g g' := by
  unfold O_18 at h
  exact xbE2 h fun v1 g1 h1 h => xbE2 h fun v2 g2 h2 h => by
    cases h
    have f1 := (e_X11_atOnce (d := 0) W h1).2
    have f2 := (e_X12_atOnce (d := 0) (f1.wf W) h2).2
    exact (zOw_fr f1 (by first | decide | exact List.not_mem_nil | (simp only [List.mem_cons, List.not_mem_nil, or_false]; omega)) (fun k => by first | exact List.not_mem_nil | (simp only [List.mem_cons, List.not_mem_nil, or_false, Prod.mk.injEq]; omega) | simp)).tr (zOw_fr f2 (by first | decide | exact List.not_mem_nil | (simp only [List.mem_cons, List.not_mem_nil, or_false]; omega)) (fun k => by first | exact List.not_mem_nil | (simp only [List.mem_cons, List.not_mem_nil, or_false, Prod.mk.injEq]; omega) | simp))
theorem w_19 (W : xWf g) (h : O_19 a1 a2 a3 a4 a5 g = some (b, g')) : zOw g g' := by
  unfold O_19 at h
  exact xbE2 h fun v1 g1 h1 h => xbE2 h fun v2 g2 h2 h => by
    cases h
    have f1 := (e_X11_answers (d := 0) W h1).2
    have f2 := (e_X12_answers (d := 0) (f1.wf W) h2).2
    exact (zOw_fr f1 (by first | decide | exact List.not_mem_nil | (simp only [List.mem_cons, List.not_mem_nil, or_false]; omega)) (fun k => by first | exact List.not_mem_nil | (simp only [List.mem_cons, List.not_mem_nil, or_false, Prod.mk.injEq]; omega) | simp)).tr (zOw_fr f2 (by first | decide | exact List.not_mem_nil | (simp only [List.mem_cons, List.not_mem_nil, or_false]; omega)) (fun k => by first | exact List.not_mem_nil | (simp only [List.mem_cons, List.not_mem_nil, or_false, Prod.mk.injEq]; omega) | simp))
theorem w_20 (W : xWf g) (h : O_20 a1 a2 a3 a4 a5 g = some (b, g')) : zOw g g' := by
  unfold O_20 at h
  exact xbE2 h fun v1 g1 h1 h => xbE2 h fun v2 g2 h2 h => by
    cases h
    have f1 := (e_X11_judged (d := 0) W h1).2
    have f2 := (e_X12_judged (d := 0) (f1.wf W) h2).2
    exact (zOw_fr f1 (by first | decide | exact List.not_mem_nil | (simp only [List.mem_cons, List.not_mem_nil, or_false]; omega)) (fun k => by first | exact List.not_mem_nil | (simp only [List.mem_cons, List.not_mem_nil, or_false, Prod.mk.injEq]; omega) | simp)).tr (zOw_fr f2 (by first | decide | exact List.not_mem_nil | (simp only [List.mem_cons, List.not_mem_nil, or_false]; omega)) (fun k => by first | exact List.not_mem_nil | (simp only [List.mem_cons, List.not_mem_nil, or_false, Prod.mk.injEq]; omega) | simp))
theorem w_21 (W : xWf g) (h : O_21 a1 a2 a3 a4 a5 g = some (b, g')) : zOw g g' := by
  unfold O_21 at h
  exact xbE2 h fun v1 g1 h1 h => xbE2 h fun v2 g2 h2 h => by
    cases h
    have f1 := (e_X11_trusty (d := 0) W h1).2
    have f2 := (e_X12_trusty (d := 0) (f1.wf W) h2).2
    exact (zOw_fr f1 (by first | decide | exact List.not_mem_nil | (simp only [List.mem_cons, List.not_mem_nil, or_false]; omega)) (fun k => by first | exact List.not_mem_nil | (simp only [List.mem_cons, List.not_mem_nil, or_false, Prod.mk.injEq]; omega) | simp)).tr (zOw_fr f2 (by first | decide | exact List.not_mem_nil | (simp only [List.mem_cons, List.not_mem_nil, or_false]; omega)) (fun k => by first | exact List.not_mem_nil | (simp only [List.mem_cons, List.not_mem_nil, or_false, Prod.mk.injEq]; omega) | simp))
theorem w_22 (W : xWf g) (h : O_22 a1 a2 a3 a4 a5 g = some (b, g')) : zOw g g' := by
  unfold O_22 at h
  exact xbE2 h fun v1 g1 h1 h => xbE2 h fun v2 g2 h2 h => by
    cases h
    have f1 := (e_X11_odds (d := 0) W h1).2
    have f2 := (e_X12_odds (d := 0) (f1.wf W) h2).2
    exact (zOw_fr f1 (by first | decide | exact List.not_mem_nil | (simp only [List.mem_cons, List.not_mem_nil, or_false]; omega)) (fun k => by first | exact List.not_mem_nil | (simp only [List.mem_cons, List.not_mem_nil, or_false, Prod.mk.injEq]; omega) | simp)).tr (zOw_fr f2 (by first | decide | exact List.not_mem_nil | (simp only [List.mem_cons, List.not_mem_nil, or_false]; omega)) (fun k => by first | exact List.not_mem_nil | (simp only [List.mem_cons, List.not_mem_nil, or_false, Prod.mk.injEq]; omega) | simp))
theorem w_23 (W : xWf g) (h : O_23 a1 a2 a3 a4 a5 g = some (b, g')) : zOw g g' := by
  unfold O_23 at h
  exact xbE2 h fun v1 g1 h1 h => xbE2 h fun v2 g2 h2 h => by
    cases h
    have f1 := (e_X11_evenest (d := 0) W h1).2
    have f2 := (e_X12_evenest (d := 0) (f1.wf W) h2).2
    exact (zOw_fr f1 (by first | decide | exact List.not_mem_nil | (simp only [List.mem_cons, List.not_mem_nil, or_false]; omega)) (fun k => by first | exact List.not_mem_nil | (simp only [List.mem_cons, List.not_mem_nil, or_false, Prod.mk.injEq]; omega) | simp)).tr (zOw_fr f2 (by first | decide | exact List.not_mem_nil | (simp only [List.mem_cons, List.not_mem_nil, or_false]; omega)) (fun k => by first | exact List.not_mem_nil | (simp only [List.mem_cons, List.not_mem_nil, or_false, Prod.mk.injEq]; omega) | simp))
theorem w_24 (W : xWf g) (h : O_24 a1 a2 a3 a4 a5 g = some (b, g')) : zOw g g' := by
  unfold O_24 at h
  exact xbE2 h fun v1 g1 h1 h => xbE2 h fun v2 g2 h2 h => by
    cases h
    have f1 := (e_X11_covers (d := 0) W h1).2
    have f2 := (e_X12_covers (d := 0) (f1.wf W) h2).2
    exact (zOw_fr f1 (by first | decide | exact List.not_mem_nil | (simp only [List.mem_cons, List.not_mem_nil, or_false]; omega)) (fun k => by first | exact List.not_mem_nil | (simp only [List.mem_cons, List.not_mem_nil, or_false, Prod.mk.injEq]; omega) | simp)).tr (zOw_fr f2 (by first | decide | exact List.not_mem_nil | (simp only [List.mem_cons, List.not_mem_nil, or_false]; omega)) (fun k => by first | exact List.not_mem_nil | (simp only [List.mem_cons, List.not_mem_nil, or_false, Prod.mk.injEq]; omega) | simp))
theorem w_25 (W : xWf g) (h : O_25 a1 a2 a3 a4 a5 g = some (b, g')) : zOw g g' := by
  unfold O_25 at h
  exact xbE2 h fun v1 g1 h1 h => xbE2 h fun v2 g2 h2 h => by
    cases h
    have f1 := (e_X11_sits (d := 0) W h1).2
    have f2 := (e_X12_sits (d := 0) (f1.wf W) h2).2
    exact (zOw_fr f1 (by first | decide | exact List.not_mem_nil | (simp only [List.mem_cons, List.not_mem_nil, or_false]; omega)) (fun k => by first | exact List.not_mem_nil | (simp only [List.mem_cons, List.not_mem_nil, or_false, Prod.mk.injEq]; omega) | simp)).tr (zOw_fr f2 (by first | decide | exact List.not_mem_nil | (simp only [List.mem_cons, List.not_mem_nil, or_false]; omega)) (fun k => by first | exact List.not_mem_nil | (simp only [List.mem_cons, List.not_mem_nil, or_false, Prod.mk.injEq]; omega) | simp))
theorem w_26 (W : xWf g) (h : O_26 a1 a2 a3 a4 a5 g = some (b, g')) : zOw g g' := by
  unfold O_26 at h
  exact xbE2 h fun v1 g1 h1 h => xbE1 h fun v2 h2 h => by
    cases h
    have f1 := (e_X11_led (d := 0) W h1).2
    exact zOw_fr f1 (by first | decide | exact List.not_mem_nil | (simp only [List.mem_cons, List.not_mem_nil, or_false]; omega)) (fun k => by first | exact List.not_mem_nil | (simp only [List.mem_cons, List.not_mem_nil, or_false, Prod.mk.injEq]; omega) | simp)
theorem w_27 (W : xWf g) (h : O_27 a1 a2 a3 a4 a5 g = some (b, g')) : zOw g g' := by
  unfold O_27 at h
  exact xbE2 h fun v1 g1 h1 h => xbE1 h fun v2 h2 h => by
    cases h
    have f1 := (e_X11_doubts (d := 0) W h1).2
    exact zOw_fr f1 (by first | decide | exact List.not_mem_nil | (simp only [List.mem_cons, List.not_mem_nil, or_false]; omega)) (fun k => by first | exact List.not_mem_nil | (simp only [List.mem_cons, List.not_mem_nil, or_false, Prod.mk.injEq]; omega) | simp)
theorem w_28 (W : xWf g) (h : O_28 a1 a2 a3 a4 a5 g = some (b, g')) : zOw g g' := by
  unfold O_28 at h
  exact xbE2 h fun v1 g1 h1 h => xbE2 h fun v2 g2 h2 h => by
    cases h
    have f1 := (e_X11_twins (d := 0) W h1).2
    have f2 := (e_X12_twins (d := 0) (f1.wf W) h2).2
    exact (zOw_fr f1 (by first | decide | exact List.not_mem_nil | (simp only [List.mem_cons, List.not_mem_nil, or_false]; omega)) (fun k => by first | exact List.not_mem_nil | (simp only [List.mem_cons, List.not_mem_nil, or_false, Prod.mk.injEq]; omega) | simp)).tr (zOw_fr f2 (by first | decide | exact List.not_mem_nil | (simp only [List.mem_cons, List.not_mem_nil, or_false]; omega)) (fun k => by first | exact List.not_mem_nil | (simp only [List.mem_cons, List.not_mem_nil, or_false, Prod.mk.injEq]; omega) | simp))
theorem w_29 (W : xWf g) (h : O_29 a1 a2 a3 a4 a5 g = some (b, g')) : zOw g g' := by
  unfold O_29 at h
  exact xbE2 h fun v1 g1 h1 h => xbE2 h fun v2 g2 h2 h => by
    cases h
    have f1 := (e_X11_ladder (d := 0) W h1).2
    have f2 := (e_X12_ladder (d := 0) (f1.wf W) h2).2
    exact (zOw_fr f1 (by first | decide | exact List.not_mem_nil | (simp only [List.mem_cons, List.not_mem_nil, or_false]; omega)) (fun k => by first | exact List.not_mem_nil | (simp only [List.mem_cons, List.not_mem_nil, or_false, Prod.mk.injEq]; omega) | simp)).tr (zOw_fr f2 (by first | decide | exact List.not_mem_nil | (simp only [List.mem_cons, List.not_mem_nil, or_false]; omega)) (fun k => by first | exact List.not_mem_nil | (simp only [List.mem_cons, List.not_mem_nil, or_false, Prod.mk.injEq]; omega) | simp))
theorem w_30 (W : xWf g) (h : O_30 a1 a2 a3 a4 a5 g = some (b, g')) : zOw g g' := by
  unfold O_30 at h
  exact xbE2 h fun v1 g1 h1 h => xbE2 h fun v2 g2 h2 h => by
    cases h
    have f1 := (e_X11_bound (d := 0) W h1).2
    have f2 := (e_X12_bound (d := 0) (f1.wf W) h2).2
    exact (zOw_fr f1 (by first | decide | exact List.not_mem_nil | (simp only [List.mem_cons, List.not_mem_nil, or_false]; omega)) (fun k => by first | exact List.not_mem_nil | (simp only [List.mem_cons, List.not_mem_nil, or_false, Prod.mk.injEq]; omega) | simp)).tr (zOw_fr f2 (by first | decide | exact List.not_mem_nil | (simp only [List.mem_cons, List.not_mem_nil, or_false]; omega)) (fun k => by first | exact List.not_mem_nil | (simp only [List.mem_cons, List.not_mem_nil, or_false, Prod.mk.injEq]; omega) | simp))
theorem w_31 (W : xWf g) (h : O_31 a1 a2 a3 a4 a5 g = some (b, g')) : zOw g g' := by
  unfold O_31 at h
  exact xbE2 h fun v1 g1 h1 h => xbE2 h fun v2 g2 h2 h => by
    cases h
    have f1 := (e_X11_swapped (d := 0) W h1).2
    have f2 := (e_X12_swapped (d := 0) (f1.wf W) h2).2
    exact (zOw_fr f1 (by first | decide | exact List.not_mem_nil | (simp only [List.mem_cons, List.not_mem_nil, or_false]; omega)) (fun k => by first | exact List.not_mem_nil | (simp only [List.mem_cons, List.not_mem_nil, or_false, Prod.mk.injEq]; omega) | simp)).tr (zOw_fr f2 (by first | decide | exact List.not_mem_nil | (simp only [List.mem_cons, List.not_mem_nil, or_false]; omega)) (fun k => by first | exact List.not_mem_nil | (simp only [List.mem_cons, List.not_mem_nil, or_false, Prod.mk.injEq]; omega) | simp))
theorem w_32 (W : xWf g) (h : O_32 a1 a2 a3 a4 a5 g = some (b, g')) : zOw g g' := by
  unfold O_32 at h
  exact xbE1 h fun v1 h1 h => by
    cases h
    exact zOw.refl _
theorem w_33 (W : xWf g) (h : O_33 a1 a2 a3 a4 a5 g = some (b, g')) : zOw g g' := by
  unfold O_33 at h
  exact xbE2 h fun v1 g1 h1 h => xbE2 h fun v2 g2 h2 h => by
    cases h
    have f1 := (e_X11_weights (d := 0) W h1).2
    have f2 := (e_X12_weights (d := 0) (f1.wf W) h2).2
    exact (zOw_fr f1 (by first | decide | exact List.not_mem_nil | (simp only [List.mem_cons, List.not_mem_nil, or_false]; omega)) (fun k => by first | exact List.not_mem_nil | (simp only [List.mem_cons, List.not_mem_nil, or_false, Prod.mk.injEq]; omega) | simp)).tr (zOw_fr f2 (by first | decide | exact List.not_mem_nil | (simp only [List.mem_cons, List.not_mem_nil, or_false]; omega)) (fun k => by first | exact List.not_mem_nil | (simp only [List.mem_cons, List.not_mem_nil, or_false, Prod.mk.injEq]; omega) | simp))
theorem w_34 (W : xWf g) (h : O_34 a1 a2 a3 a4 a5 g = some (b, g')) : zOw g g' := by
  unfold O_34 at h
  exact xbE2 h fun v1 g1 h1 h => xbE2 h fun v2 g2 h2 h => by
    cases h
    have f1 := (e_X11_weight (d := 0) W h1).2
    have f2 := (e_X12_weight (d := 0) (f1.wf W) h2).2
    exact (zOw_fr f1 (by first | decide | exact List.not_mem_nil | (simp only [List.mem_cons, List.not_mem_nil, or_false]; omega)) (fun k => by first | exact List.not_mem_nil | (simp only [List.mem_cons, List.not_mem_nil, or_false, Prod.mk.injEq]; omega) | simp)).tr (zOw_fr f2 (by first | decide | exact List.not_mem_nil | (simp only [List.mem_cons, List.not_mem_nil, or_false]; omega)) (fun k => by first | exact List.not_mem_nil | (simp only [List.mem_cons, List.not_mem_nil, or_false, Prod.mk.injEq]; omega) | simp))
theorem w_35 (W : xWf g) (h : O_35 a1 a2 a3 a4 a5 g = some (b, g')) : zOw g g' := by
  unfold O_35 at h
  exact xbE2 h fun v1 g1 h1 h => xbE2 h fun v2 g2 h2 h => by
    cases h
    have f1 := (e_X11_could (d := 0) W h1).2
    have f2 := (e_X12_could (d := 0) (f1.wf W) h2).2
    exact (zOw_fr f1 (by first | decide | exact List.not_mem_nil | (simp only [List.mem_cons, List.not_mem_nil, or_false]; omega)) (fun k => by first | exact List.not_mem_nil | (simp only [List.mem_cons, List.not_mem_nil, or_false, Prod.mk.injEq]; omega) | simp)).tr (zOw_fr f2 (by first | decide | exact List.not_mem_nil | (simp only [List.mem_cons, List.not_mem_nil, or_false]; omega)) (fun k => by first | exact List.not_mem_nil | (simp only [List.mem_cons, List.not_mem_nil, or_false, Prod.mk.injEq]; omega) | simp))
theorem w_36 (W : xWf g) (h : O_36 a1 a2 a3 a4 a5 g = some (b, g')) : zOw g g' := by
  unfold O_36 at h
  exact xbE2 h fun v1 g1 h1 h => xbE2 h fun v2 g2 h2 h => by
    cases h
    have f1 := (e_X11_stones (d := 0) W h1).2
    have f2 := (e_X12_stones (d := 0) (f1.wf W) h2).2
    exact (zOw_fr f1 (by first | decide | exact List.not_mem_nil | (simp only [List.mem_cons, List.not_mem_nil, or_false]; omega)) (fun k => by first | exact List.not_mem_nil | (simp only [List.mem_cons, List.not_mem_nil, or_false, Prod.mk.injEq]; omega) | simp)).tr (zOw_fr f2 (by first | decide | exact List.not_mem_nil | (simp only [List.mem_cons, List.not_mem_nil, or_false]; omega)) (fun k => by first | exact List.not_mem_nil | (simp only [List.mem_cons, List.not_mem_nil, or_false, Prod.mk.injEq]; omega) | simp))
theorem w_37 (W : xWf g) (h : O_37 a1 a2 a3 a4 a5 g = some (b, g')) : zOw g g' := by
  unfold O_37 at h
  exact xbE2 h fun v1 g1 h1 h => xbE2 h fun v2 g2 h2 h => by
    cases h
    have f1 := (e_X11_heaps (d := 0) W h1).2
    have f2 := (e_X12_heaps (d := 0) (f1.wf W) h2).2
    exact (zOw_fr f1 (by first | decide | exact List.not_mem_nil | (simp only [List.mem_cons, List.not_mem_nil, or_false]; omega)) (fun k => by first | exact List.not_mem_nil | (simp only [List.mem_cons, List.not_mem_nil, or_false, Prod.mk.injEq]; omega) | simp)).tr (zOw_fr f2 (by first | decide | exact List.not_mem_nil | (simp only [List.mem_cons, List.not_mem_nil, or_false]; omega)) (fun k => by first | exact List.not_mem_nil | (simp only [List.mem_cons, List.not_mem_nil, or_false, Prod.mk.injEq]; omega) | simp))
theorem w_38 (W : xWf g) (h : O_38 a1 a2 a3 a4 a5 g = some (b, g')) : zOw g g' := by
  unfold O_38 at h
  exact xbE1 h fun v1 h1 h => by
    cases h
    exact zOw.refl _
theorem w_41 (W : xWf g) (h : O_41 a1 a2 a3 a4 a5 g = some (b, g')) : zOw g g' := by
  unfold O_41 at h
  exact xbE1 h fun v1 h1 h => xbE1 h fun v2 h2 h => by
    cases h
    exact zOw.refl _
theorem w_39 (W : xWf g) (h : O_39 a1 a2 a3 a4 a5 g = some (b, g')) : zOw g g' := by
  unfold O_39 at h
  exact xbE2 h fun v1 g1 h1 h => xbE2 h fun v2 g2 h2 h => by
    cases h
    have W1 : xWf g1 := (e_X11_image (d := 0) W h1).2.1
    have f2 := (e_X12_image (d := 0) W1 h2).2
    have s1 : zOw g g1 := by
      unfold E_X11_image at h1
      by_cases c : a1 < 0
      · rw [if_pos c] at h1; cases h1; exact zOw.refl _
      · rw [if_neg c] at h1
        by_cases c2 : a1 < 3
        · rw [if_pos c2] at h1
          obtain ⟨k1, k2, k3⟩ := xbx_k a1
          exact xbE1 h1 fun g25 e h1 => by
            cases h1
            have f := (e_X0_copyFrom (d := 0) W k1 xBk_32 k2 e).2
            intro k
            have q := zOw_fr f (by first | decide | exact List.not_mem_nil | (simp only [List.mem_cons, List.not_mem_nil, or_false]; omega)) (fun k => by first | exact List.not_mem_nil | (simp only [List.mem_cons, List.not_mem_nil, or_false, Prod.mk.injEq]; omega) | simp) k
            exact q
        · rw [if_neg c2] at h1; cases h1; exact zOw.refl _
    exact s1.tr (zOw_fr f2 (by first | decide | exact List.not_mem_nil | (simp only [List.mem_cons, List.not_mem_nil, or_false]; omega)) (fun k => by first | exact List.not_mem_nil | (simp only [List.mem_cons, List.not_mem_nil, or_false, Prod.mk.injEq]; omega) | simp))
theorem w_40 (W : xWf g) (h : O_40 a1 a2 a3 a4 a5 g = some (b, g')) : zOw g g' := by
  unfold O_40 at h
  exact xbE2 h fun v1 g1 h1 h => xbE2 h fun v2 g2 h2 h => by
    cases h
    have W1 : xWf g1 := (e_X11_back (d := 0) W h1).2.1
    have f2 := (e_X12_back (d := 0) W1 h2).2
    have s1 : zOw g g1 := by
      unfold E_X11_back at h1
      by_cases c : a1 < 0
      · rw [if_pos c] at h1; cases h1; exact zOw.refl _
      · rw [if_neg c] at h1
        by_cases c2 : 3 ≤ a1
        · rw [if_pos c2] at h1; cases h1; exact zOw.refl _
        · rw [if_neg c2] at h1
          by_cases c3 : xI g (xbx a1) 4 = 0
          · rw [if_pos c3] at h1; cases h1; exact zOw.refl _
          · rw [if_neg c3] at h1
            obtain ⟨k1, k2, k3⟩ := xbx_k a1
            exact xbE1 h1 fun g25 e h1 => by
              cases h1
              have f := (e_X0_copyFrom (d := 0) W xBk_32 k1 (fun z => k2 z.symm) e).2
              exact zOw_fr f (by first | decide | exact List.not_mem_nil | (simp only [List.mem_cons, List.not_mem_nil, or_false]; omega)) (fun k => by first | exact List.not_mem_nil | (simp only [List.mem_cons, List.not_mem_nil, or_false, Prod.mk.injEq]; omega) | simp)
    exact s1.tr (zOw_fr f2 (by first | decide | exact List.not_mem_nil | (simp only [List.mem_cons, List.not_mem_nil, or_false]; omega)) (fun k => by first | exact List.not_mem_nil | (simp only [List.mem_cons, List.not_mem_nil, or_false, Prod.mk.injEq]; omega) | simp))
end KW
