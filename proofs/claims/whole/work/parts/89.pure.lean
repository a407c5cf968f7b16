theorem pr_tray {σ1 σ2 : jq_M} (h : jq_Rel σ1 σ2) (w1 : jq_wf jq_zX 132 σ1) (w2 : jq_wf jq_zM 18 σ2) (y1 : jq_lay jq_zX σ1) (y2 : jq_lay jq_zM σ2) {p1 p2 p3 : Int} (hp1 : jq_r p1) (hp2 : jq_r p2) (hp3 : jq_r p3) : ∃ (r : Int) (σ1' σ2' : jq_M), X10_tray p1 p2 p3 σ1 = some (r, σ1') ∧ X11_tray p1 p2 p3 σ2 = some (r, σ2') ∧ jq_Rel σ1' σ2' := by
  sorry
theorem pr_write {σ1 σ2 : jq_M} (h : jq_Rel σ1 σ2) (w1 : jq_wf jq_zX 132 σ1) (w2 : jq_wf jq_zM 18 σ2) (y1 : jq_lay jq_zX σ1) (y2 : jq_lay jq_zM σ2) {p1 p2 p3 : Int} (hp1 : jq_r p1) (hp2 : jq_r p2) (hp3 : jq_rl p3) : ∃ (r : Int) (σ1' σ2' : jq_M), X10_write p1 p2 p3 σ1 = some (r, σ1') ∧ X11_write p1 p2 p3 σ2 = some (r, σ2') ∧ jq_Rel σ1' σ2' := by
  sorry
theorem pr_read {σ1 σ2 : jq_M} (h : jq_Rel σ1 σ2) (w1 : jq_wf jq_zX 132 σ1) (w2 : jq_wf jq_zM 18 σ2) (y1 : jq_lay jq_zX σ1) (y2 : jq_lay jq_zM σ2) {p1 p2 : Int} (hp1 : jq_r p1) (hp2 : jq_r p2) : ∃ (r : Int) (σ1' σ2' : jq_M), X10_read p1 p2 σ1 = some (r, σ1') ∧ X11_read p1 p2 σ2 = some (r, σ2') ∧ jq_Rel σ1' σ2' := by
  sorry
theorem pr_pour {σ1 σ2 : jq_M} (h : jq_Rel σ1 σ2) (w1 : jq_wf jq_zX 132 σ1) (w2 : jq_wf jq_zM 18 σ2) (y1 : jq_lay jq_zX σ1) (y2 : jq_lay jq_zM σ2) {p1 p2 p3 p4 p5 : Int} (hp1 : jq_r p1) (hp2 : jq_r p2) (hp3 : jq_r p3) (hp4 : jq_r p4) (hp5 : jq_r p5) : ∃ (r : Int) (σ1' σ2' : jq_M), X10_pour p1 p2 p3 p4 p5 σ1 = some (r, σ1') ∧ X11_pour p1 p2 p3 p4 p5 σ2 = some (r, σ2') ∧ jq_Rel σ1' σ2' := by
  sorry
theorem pr_feed {σ1 σ2 : jq_M} (h : jq_Rel σ1 σ2) (w1 : jq_wf jq_zX 132 σ1) (w2 : jq_wf jq_zM 18 σ2) (y1 : jq_lay jq_zX σ1) (y2 : jq_lay jq_zM σ2) {p1 p2 p3 p4 p5 : Int} (hp1 : jq_r p1) (hp2 : jq_r p2) (hp3 : jq_r p3) (hp4 : jq_r p4) (hp5 : jq_r p5) : ∃ (r : Int) (σ1' σ2' : jq_M), X10_feed p1 p2 p3 p4 p5 σ1 = some (r, σ1') ∧ X11_feed p1 p2 p3 p4 p5 σ2 = some (r, σ2') ∧ jq_Rel σ1' σ2' := by
  sorry
theorem pr_committee {σ1 σ2 : jq_M} (h : jq_Rel σ1 σ2) (w1 : jq_wf jq_zX 132 σ1) (w2 : jq_wf jq_zM 18 σ2) (y1 : jq_lay jq_zX σ1) (y2 : jq_lay jq_zM σ2) {p1 : Int} (hp1 : jq_r p1) : ∃ (r : Int) (σ1' σ2' : jq_M), X10_committee p1 σ1 = some (r, σ1') ∧ X11_committee p1 σ2 = some (r, σ2') ∧ jq_Rel σ1' σ2' := by
  sorry
theorem pr_sessions {σ1 σ2 : jq_M} (h : jq_Rel σ1 σ2) (w1 : jq_wf jq_zX 132 σ1) (w2 : jq_wf jq_zM 18 σ2) (y1 : jq_lay jq_zX σ1) (y2 : jq_lay jq_zM σ2) {p1 : Int} (hp1 : jq_r p1) : ∃ (r : Int) (σ1' σ2' : jq_M), X10_sessions p1 σ1 = some (r, σ1') ∧ X11_sessions p1 σ2 = some (r, σ2') ∧ jq_Rel σ1' σ2' := by
  sorry
theorem pr_told {σ1 σ2 : jq_M} (h : jq_Rel σ1 σ2) (w1 : jq_wf jq_zX 132 σ1) (w2 : jq_wf jq_zM 18 σ2) (y1 : jq_lay jq_zX σ1) (y2 : jq_lay jq_zM σ2) {p1 : Int} (hp1 : jq_r p1) : ∃ (r : Int) (σ1' σ2' : jq_M), X10_told p1 σ1 = some (r, σ1') ∧ X11_told p1 σ2 = some (r, σ2') ∧ jq_Rel σ1' σ2' := by
  sorry
theorem pr_who {σ1 σ2 : jq_M} (h : jq_Rel σ1 σ2) (w1 : jq_wf jq_zX 132 σ1) (w2 : jq_wf jq_zM 18 σ2) (y1 : jq_lay jq_zX σ1) (y2 : jq_lay jq_zM σ2) {p1 : Int} (hp1 : jq_r p1) : ∃ (r : Int) (σ1' σ2' : jq_M), X10_who p1 σ1 = some (r, σ1') ∧ X11_who p1 σ2 = some (r, σ2') ∧ jq_Rel σ1' σ2' := by
  sorry
theorem pr_article {σ1 σ2 : jq_M} (h : jq_Rel σ1 σ2) (w1 : jq_wf jq_zX 132 σ1) (w2 : jq_wf jq_zM 18 σ2) (y1 : jq_lay jq_zX σ1) (y2 : jq_lay jq_zM σ2) {p1 p2 : Int} (hp1 : jq_r p1) (hp2 : jq_r p2) : ∃ (r : Int) (σ1' σ2' : jq_M), X10_article p1 p2 σ1 = some (r, σ1') ∧ X11_article p1 p2 σ2 = some (r, σ2') ∧ jq_Rel σ1' σ2' := by
  sorry
theorem pr_beside {σ1 σ2 : jq_M} (h : jq_Rel σ1 σ2) (w1 : jq_wf jq_zX 132 σ1) (w2 : jq_wf jq_zM 18 σ2) (y1 : jq_lay jq_zX σ1) (y2 : jq_lay jq_zM σ2) {p1 p2 : Int} (hp1 : jq_r p1) (hp2 : jq_r p2) : ∃ (r : Int) (σ1' σ2' : jq_M), X10_beside p1 p2 σ1 = some (r, σ1') ∧ X11_beside p1 p2 σ2 = some (r, σ2') ∧ jq_Rel σ1' σ2' := by
  sorry
theorem pr_facing {σ1 σ2 : jq_M} (h : jq_Rel σ1 σ2) (w1 : jq_wf jq_zX 132 σ1) (w2 : jq_wf jq_zM 18 σ2) (y1 : jq_lay jq_zX σ1) (y2 : jq_lay jq_zM σ2) {p1 p2 : Int} (hp1 : jq_r p1) (hp2 : jq_r p2) : ∃ (r : Int) (σ1' σ2' : jq_M), X10_facing p1 p2 σ1 = some (r, σ1') ∧ X11_facing p1 p2 σ2 = some (r, σ2') ∧ jq_Rel σ1' σ2' := by
  sorry
theorem pr_worth {σ1 σ2 : jq_M} (h : jq_Rel σ1 σ2) (w1 : jq_wf jq_zX 132 σ1) (w2 : jq_wf jq_zM 18 σ2) (y1 : jq_lay jq_zX σ1) (y2 : jq_lay jq_zM σ2) {p1 : Int} (hp1 : jq_r p1) : ∃ (r : Int) (σ1' σ2' : jq_M), X10_worth p1 σ1 = some (r, σ1') ∧ X11_worth p1 σ2 = some (r, σ2') ∧ jq_Rel σ1' σ2' := by
  sorry
theorem pr_allWorth {σ1 σ2 : jq_M} (h : jq_Rel σ1 σ2) (w1 : jq_wf jq_zX 132 σ1) (w2 : jq_wf jq_zM 18 σ2) (y1 : jq_lay jq_zX σ1) (y2 : jq_lay jq_zM σ2) : ∃ (r : Int) (σ1' σ2' : jq_M), X10_allWorth σ1 = some (r, σ1') ∧ X11_allWorth σ2 = some (r, σ2') ∧ jq_Rel σ1' σ2' := by
  sorry
theorem pr_signs {σ1 σ2 : jq_M} (h : jq_Rel σ1 σ2) (w1 : jq_wf jq_zX 132 σ1) (w2 : jq_wf jq_zM 18 σ2) (y1 : jq_lay jq_zX σ1) (y2 : jq_lay jq_zM σ2) {p1 : Int} (hp1 : jq_r p1) : ∃ (r : Int) (σ1' σ2' : jq_M), X10_signs p1 σ1 = some (r, σ1') ∧ X11_signs p1 σ2 = some (r, σ2') ∧ jq_Rel σ1' σ2' := by
  sorry
theorem pr_dearest {σ1 σ2 : jq_M} (h : jq_Rel σ1 σ2) (w1 : jq_wf jq_zX 132 σ1) (w2 : jq_wf jq_zM 18 σ2) (y1 : jq_lay jq_zX σ1) (y2 : jq_lay jq_zM σ2) {p1 : Int} (hp1 : jq_r p1) : ∃ (r : Int) (σ1' σ2' : jq_M), X10_dearest p1 σ1 = some (r, σ1') ∧ X11_dearest p1 σ2 = some (r, σ2') ∧ jq_Rel σ1' σ2' := by
  sorry
theorem pr_sit {σ1 σ2 : jq_M} (h : jq_Rel σ1 σ2) (w1 : jq_wf jq_zX 132 σ1) (w2 : jq_wf jq_zM 18 σ2) (y1 : jq_lay jq_zX σ1) (y2 : jq_lay jq_zM σ2) {p1 p2 : Int} (hp1 : jq_r p1) (hp2 : jq_r p2) : ∃ (r : Int) (σ1' σ2' : jq_M), X10_sit p1 p2 σ1 = some (r, σ1') ∧ X11_sit p1 p2 σ2 = some (r, σ2') ∧ jq_Rel σ1' σ2' := by
  sorry
theorem pr_rise {σ1 σ2 : jq_M} (h : jq_Rel σ1 σ2) (w1 : jq_wf jq_zX 132 σ1) (w2 : jq_wf jq_zM 18 σ2) (y1 : jq_lay jq_zX σ1) (y2 : jq_lay jq_zM σ2) {p1 : Int} (hp1 : jq_r p1) : ∃ (r : Int) (σ1' σ2' : jq_M), X10_rise p1 σ1 = some (r, σ1') ∧ X11_rise p1 σ2 = some (r, σ2') ∧ jq_Rel σ1' σ2' := by
  sorry
theorem pr_swap {σ1 σ2 : jq_M} (h : jq_Rel σ1 σ2) (w1 : jq_wf jq_zX 132 σ1) (w2 : jq_wf jq_zM 18 σ2) (y1 : jq_lay jq_zX σ1) (y2 : jq_lay jq_zM σ2) {p1 p2 : Int} (hp1 : jq_r p1) (hp2 : jq_r p2) : ∃ (r : Int) (σ1' σ2' : jq_M), X10_swap p1 p2 σ1 = some (r, σ1') ∧ X11_swap p1 p2 σ2 = some (r, σ2') ∧ jq_Rel σ1' σ2' := by
  sorry
theorem pr_turn {σ1 σ2 : jq_M} (h : jq_Rel σ1 σ2) (w1 : jq_wf jq_zX 132 σ1) (w2 : jq_wf jq_zM 18 σ2) (y1 : jq_lay jq_zX σ1) (y2 : jq_lay jq_zM σ2) {p1 : Int} (hp1 : jq_r p1) : ∃ (r : Int) (σ1' σ2' : jq_M), X10_turn p1 σ1 = some (r, σ1') ∧ X11_turn p1 σ2 = some (r, σ2') ∧ jq_Rel σ1' σ2' := by
  sorry
theorem pr_day {σ1 σ2 : jq_M} (h : jq_Rel σ1 σ2) (w1 : jq_wf jq_zX 132 σ1) (w2 : jq_wf jq_zM 18 σ2) (y1 : jq_lay jq_zX σ1) (y2 : jq_lay jq_zM σ2) {p1 : Int} (hp1 : jq_r p1) : ∃ (r : Int) (σ1' σ2' : jq_M), X10_day p1 σ1 = some (r, σ1') ∧ X11_day p1 σ2 = some (r, σ2') ∧ jq_Rel σ1' σ2' := by
  sorry
theorem pr_agree {σ1 σ2 : jq_M} (h : jq_Rel σ1 σ2) (w1 : jq_wf jq_zX 132 σ1) (w2 : jq_wf jq_zM 18 σ2) (y1 : jq_lay jq_zX σ1) (y2 : jq_lay jq_zM σ2) {p1 : Int} (hp1 : jq_r p1) : ∃ (r : Int) (σ1' σ2' : jq_M), X10_agree p1 σ1 = some (r, σ1') ∧ X11_agree p1 σ2 = some (r, σ2') ∧ jq_Rel σ1' σ2' := by
  sorry
theorem pr_withdraw {σ1 σ2 : jq_M} (h : jq_Rel σ1 σ2) (w1 : jq_wf jq_zX 132 σ1) (w2 : jq_wf jq_zM 18 σ2) (y1 : jq_lay jq_zX σ1) (y2 : jq_lay jq_zM σ2) {p1 : Int} (hp1 : jq_r p1) : ∃ (r : Int) (σ1' σ2' : jq_M), X10_withdraw p1 σ1 = some (r, σ1') ∧ X11_withdraw p1 σ2 = some (r, σ2') ∧ jq_Rel σ1' σ2' := by
  sorry
theorem pr_insist {σ1 σ2 : jq_M} (h : jq_Rel σ1 σ2) (w1 : jq_wf jq_zX 132 σ1) (w2 : jq_wf jq_zM 18 σ2) (y1 : jq_lay jq_zX σ1) (y2 : jq_lay jq_zM σ2) {p1 p2 : Int} (hp1 : jq_r p1) (hp2 : jq_r p2) : ∃ (r : Int) (σ1' σ2' : jq_M), X10_insist p1 p2 σ1 = some (r, σ1') ∧ X11_insist p1 p2 σ2 = some (r, σ2') ∧ jq_Rel σ1' σ2' := by
  sorry
theorem pr_value {σ1 σ2 : jq_M} (h : jq_Rel σ1 σ2) (w1 : jq_wf jq_zX 132 σ1) (w2 : jq_wf jq_zM 18 σ2) (y1 : jq_lay jq_zX σ1) (y2 : jq_lay jq_zM σ2) {p1 p2 : Int} (hp1 : jq_r p1) (hp2 : jq_r p2) : ∃ (r : Int) (σ1' σ2' : jq_M), X10_value p1 p2 σ1 = some (r, σ1') ∧ X11_value p1 p2 σ2 = some (r, σ2') ∧ jq_Rel σ1' σ2' := by
  sorry
theorem pr_carve {σ1 σ2 : jq_M} (h : jq_Rel σ1 σ2) (w1 : jq_wf jq_zX 132 σ1) (w2 : jq_wf jq_zM 18 σ2) (y1 : jq_lay jq_zX σ1) (y2 : jq_lay jq_zM σ2) {p1 p2 : Int} (hp1 : jq_r p1) (hp2 : p2 = 0 ∨ p2 = 1) : ∃ (r : Int) (σ1' σ2' : jq_M), X10_carve p1 p2 σ1 = some (r, σ1') ∧ X11_carve p1 p2 σ2 = some (r, σ2') ∧ jq_Rel σ1' σ2' := by
  sorry
theorem pr_seatings {σ1 σ2 : jq_M} (h : jq_Rel σ1 σ2) (w1 : jq_wf jq_zX 132 σ1) (w2 : jq_wf jq_zM 18 σ2) (y1 : jq_lay jq_zX σ1) (y2 : jq_lay jq_zM σ2) : ∃ (r : Int) (σ1' σ2' : jq_M), X10_seatings σ1 = some (r, σ1') ∧ X11_seatings σ2 = some (r, σ2') ∧ jq_Rel σ1' σ2' := by
  sorry
theorem pr_good {σ1 σ2 : jq_M} (h : jq_Rel σ1 σ2) (w1 : jq_wf jq_zX 132 σ1) (w2 : jq_wf jq_zM 18 σ2) (y1 : jq_lay jq_zX σ1) (y2 : jq_lay jq_zM σ2) : ∃ (r : Int) (σ1' σ2' : jq_M), X10_good σ1 = some (r, σ1') ∧ X11_good σ2 = some (r, σ2') ∧ jq_Rel σ1' σ2' := by
  sorry
theorem pr_classes {σ1 σ2 : jq_M} (h : jq_Rel σ1 σ2) (w1 : jq_wf jq_zX 132 σ1) (w2 : jq_wf jq_zM 18 σ2) (y1 : jq_lay jq_zX σ1) (y2 : jq_lay jq_zM σ2) : ∃ (r : Int) (σ1' σ2' : jq_M), X10_classes σ1 = some (r, σ1') ∧ X11_classes σ2 = some (r, σ2') ∧ jq_Rel σ1' σ2' := by
  sorry
theorem pr_goodAt {σ1 σ2 : jq_M} (h : jq_Rel σ1 σ2) (w1 : jq_wf jq_zX 132 σ1) (w2 : jq_wf jq_zM 18 σ2) (y1 : jq_lay jq_zX σ1) (y2 : jq_lay jq_zM σ2) {p1 : Int} (hp1 : jq_r p1) : ∃ (r : Int) (σ1' σ2' : jq_M), X10_goodAt p1 σ1 = some (r, σ1') ∧ X11_goodAt p1 σ2 = some (r, σ2') ∧ jq_Rel σ1' σ2' := by
  sorry
theorem pr_best {σ1 σ2 : jq_M} (h : jq_Rel σ1 σ2) (w1 : jq_wf jq_zX 132 σ1) (w2 : jq_wf jq_zM 18 σ2) (y1 : jq_lay jq_zX σ1) (y2 : jq_lay jq_zM σ2) : ∃ (r : Int) (σ1' σ2' : jq_M), X10_best σ1 = some (r, σ1') ∧ X11_best σ2 = some (r, σ2') ∧ jq_Rel σ1' σ2' := by
  sorry
theorem pr_bestAt {σ1 σ2 : jq_M} (h : jq_Rel σ1 σ2) (w1 : jq_wf jq_zX 132 σ1) (w2 : jq_wf jq_zM 18 σ2) (y1 : jq_lay jq_zX σ1) (y2 : jq_lay jq_zM σ2) {p1 : Int} (hp1 : jq_r p1) : ∃ (r : Int) (σ1' σ2' : jq_M), X10_bestAt p1 σ1 = some (r, σ1') ∧ X11_bestAt p1 σ2 = some (r, σ2') ∧ jq_Rel σ1' σ2' := by
  sorry
theorem pr_mostSign {σ1 σ2 : jq_M} (h : jq_Rel σ1 σ2) (w1 : jq_wf jq_zX 132 σ1) (w2 : jq_wf jq_zM 18 σ2) (y1 : jq_lay jq_zX σ1) (y2 : jq_lay jq_zM σ2) : ∃ (r : Int) (σ1' σ2' : jq_M), X10_mostSign σ1 = some (r, σ1') ∧ X11_mostSign σ2 = some (r, σ2') ∧ jq_Rel σ1' σ2' := by
  sorry
theorem pr_quarrel {σ1 σ2 : jq_M} (h : jq_Rel σ1 σ2) (w1 : jq_wf jq_zX 132 σ1) (w2 : jq_wf jq_zM 18 σ2) (y1 : jq_lay jq_zX σ1) (y2 : jq_lay jq_zM σ2) : ∃ (r : Int) (σ1' σ2' : jq_M), X10_quarrel σ1 = some (r, σ1') ∧ X11_quarrel σ2 = some (r, σ2') ∧ jq_Rel σ1' σ2' := by
  sorry
theorem pr_pleased {σ1 σ2 : jq_M} (h : jq_Rel σ1 σ2) (w1 : jq_wf jq_zX 132 σ1) (w2 : jq_wf jq_zM 18 σ2) (y1 : jq_lay jq_zX σ1) (y2 : jq_lay jq_zM σ2) {p1 : Int} (hp1 : jq_r p1) : ∃ (r : Int) (σ1' σ2' : jq_M), X10_pleased p1 σ1 = some (r, σ1') ∧ X11_pleased p1 σ2 = some (r, σ2') ∧ jq_Rel σ1' σ2' := by
  sorry
theorem pr_mostFor {σ1 σ2 : jq_M} (h : jq_Rel σ1 σ2) (w1 : jq_wf jq_zX 132 σ1) (w2 : jq_wf jq_zM 18 σ2) (y1 : jq_lay jq_zX σ1) (y2 : jq_lay jq_zM σ2) {p1 : Int} (hp1 : jq_r p1) : ∃ (r : Int) (σ1' σ2' : jq_M), X10_mostFor p1 σ1 = some (r, σ1') ∧ X11_mostFor p1 σ2 = some (r, σ2') ∧ jq_Rel σ1' σ2' := by
  sorry
theorem pr_signsIn {σ1 σ2 : jq_M} (h : jq_Rel σ1 σ2) (w1 : jq_wf jq_zX 132 σ1) (w2 : jq_wf jq_zM 18 σ2) (y1 : jq_lay jq_zX σ1) (y2 : jq_lay jq_zM σ2) {p1 : Int} (hp1 : jq_r p1) : ∃ (r : Int) (σ1' σ2' : jq_M), X10_signsIn p1 σ1 = some (r, σ1') ∧ X11_signsIn p1 σ2 = some (r, σ2') ∧ jq_Rel σ1' σ2' := by
  sorry
theorem pr_seatBest {σ1 σ2 : jq_M} (h : jq_Rel σ1 σ2) (w1 : jq_wf jq_zX 132 σ1) (w2 : jq_wf jq_zM 18 σ2) (y1 : jq_lay jq_zX σ1) (y2 : jq_lay jq_zM σ2) : ∃ (r : Int) (σ1' σ2' : jq_M), X10_seatBest σ1 = some (r, σ1') ∧ X11_seatBest σ2 = some (r, σ2') ∧ jq_Rel σ1' σ2' := by
  sorry
theorem pr_fish {σ1 σ2 : jq_M} (h : jq_Rel σ1 σ2) (w1 : jq_wf jq_zX 132 σ1) (w2 : jq_wf jq_zM 18 σ2) (y1 : jq_lay jq_zX σ1) (y2 : jq_lay jq_zM σ2) : ∃ (r : Int) (σ1' σ2' : jq_M), X10_fish σ1 = some (r, σ1') ∧ X11_fish σ2 = some (r, σ2') ∧ jq_Rel σ1' σ2' := by
  sorry
theorem pr_leastFish {σ1 σ2 : jq_M} (h : jq_Rel σ1 σ2) (w1 : jq_wf jq_zX 132 σ1) (w2 : jq_wf jq_zM 18 σ2) (y1 : jq_lay jq_zX σ1) (y2 : jq_lay jq_zM σ2) : ∃ (r : Int) (σ1' σ2' : jq_M), X10_leastFish σ1 = some (r, σ1') ∧ X11_leastFish σ2 = some (r, σ2') ∧ jq_Rel σ1' σ2' := by
  sorry
theorem pr_bestSwap {σ1 σ2 : jq_M} (h : jq_Rel σ1 σ2) (w1 : jq_wf jq_zX 132 σ1) (w2 : jq_wf jq_zM 18 σ2) (y1 : jq_lay jq_zX σ1) (y2 : jq_lay jq_zM σ2) : ∃ (r : Int) (σ1' σ2' : jq_M), X10_bestSwap σ1 = some (r, σ1') ∧ X11_bestSwap σ2 = some (r, σ2') ∧ jq_Rel σ1' σ2' := by
  sorry
theorem pr_bestTurn {σ1 σ2 : jq_M} (h : jq_Rel σ1 σ2) (w1 : jq_wf jq_zX 132 σ1) (w2 : jq_wf jq_zM 18 σ2) (y1 : jq_lay jq_zX σ1) (y2 : jq_lay jq_zM σ2) : ∃ (r : Int) (σ1' σ2' : jq_M), X10_bestTurn σ1 = some (r, σ1') ∧ X11_bestTurn σ2 = some (r, σ2') ∧ jq_Rel σ1' σ2' := by
  sorry
theorem pr_signsBy {σ1 σ2 : jq_M} (h : jq_Rel σ1 σ2) (w1 : jq_wf jq_zX 132 σ1) (w2 : jq_wf jq_zM 18 σ2) (y1 : jq_lay jq_zX σ1) (y2 : jq_lay jq_zM σ2) {p1 p2 : Int} (hp1 : jq_r p1) (hp2 : jq_r p2) : ∃ (r : Int) (σ1' σ2' : jq_M), X10_signsBy p1 p2 σ1 = some (r, σ1') ∧ X11_signsBy p1 p2 σ2 = some (r, σ2') ∧ jq_Rel σ1' σ2' := by
  sorry
theorem pr_game {σ1 σ2 : jq_M} (h : jq_Rel σ1 σ2) (w1 : jq_wf jq_zX 132 σ1) (w2 : jq_wf jq_zM 18 σ2) (y1 : jq_lay jq_zX σ1) (y2 : jq_lay jq_zM σ2) {p1 p2 p3 : Int} (hp1 : jq_r p1) (hp2 : jq_r p2) (hp3 : jq_r p3) : ∃ (r : Int) (σ1' σ2' : jq_M), X10_game p1 p2 p3 σ1 = some (r, σ1') ∧ X11_game p1 p2 p3 σ2 = some (r, σ2') ∧ jq_Rel σ1' σ2' := by
  sorry
theorem pr_moveOf {σ1 σ2 : jq_M} (h : jq_Rel σ1 σ2) (w1 : jq_wf jq_zX 132 σ1) (w2 : jq_wf jq_zM 18 σ2) (y1 : jq_lay jq_zX σ1) (y2 : jq_lay jq_zM σ2) {p1 p2 p3 : Int} (hp1 : jq_r p1) (hp2 : jq_r p2) (hp3 : jq_r p3) : ∃ (r : Int) (σ1' σ2' : jq_M), X10_moveOf p1 p2 p3 σ1 = some (r, σ1') ∧ X11_moveOf p1 p2 p3 σ2 = some (r, σ2') ∧ jq_Rel σ1' σ2' := by
  sorry
theorem pr_leans {σ1 σ2 : jq_M} (h : jq_Rel σ1 σ2) (w1 : jq_wf jq_zX 132 σ1) (w2 : jq_wf jq_zM 18 σ2) (y1 : jq_lay jq_zX σ1) (y2 : jq_lay jq_zM σ2) {p1 : Int} (hp1 : jq_r p1) : ∃ (r : Int) (σ1' σ2' : jq_M), X10_leans p1 σ1 = some (r, σ1') ∧ X11_leans p1 σ2 = some (r, σ2') ∧ jq_Rel σ1' σ2' := by
  sorry
theorem pr_falls {σ1 σ2 : jq_M} (h : jq_Rel σ1 σ2) (w1 : jq_wf jq_zX 132 σ1) (w2 : jq_wf jq_zM 18 σ2) (y1 : jq_lay jq_zX σ1) (y2 : jq_lay jq_zM σ2) {p1 : Int} (hp1 : jq_r p1) : ∃ (r : Int) (σ1' σ2' : jq_M), X10_falls p1 σ1 = some (r, σ1') ∧ X11_falls p1 σ2 = some (r, σ2') ∧ jq_Rel σ1' σ2' := by
  sorry
theorem pr_keystone {σ1 σ2 : jq_M} (h : jq_Rel σ1 σ2) (w1 : jq_wf jq_zX 132 σ1) (w2 : jq_wf jq_zM 18 σ2) (y1 : jq_lay jq_zX σ1) (y2 : jq_lay jq_zM σ2) : ∃ (r : Int) (σ1' σ2' : jq_M), X10_keystone σ1 = some (r, σ1') ∧ X11_keystone σ2 = some (r, σ2') ∧ jq_Rel σ1' σ2' := by
  sorry
theorem pr_orders {σ1 σ2 : jq_M} (h : jq_Rel σ1 σ2) (w1 : jq_wf jq_zX 132 σ1) (w2 : jq_wf jq_zM 18 σ2) (y1 : jq_lay jq_zX σ1) (y2 : jq_lay jq_zM σ2) : ∃ (r : Int) (σ1' σ2' : jq_M), X10_orders σ1 = some (r, σ1') ∧ X11_orders σ2 = some (r, σ2') ∧ jq_Rel σ1' σ2' := by
  sorry
theorem pr_soonest {σ1 σ2 : jq_M} (h : jq_Rel σ1 σ2) (w1 : jq_wf jq_zX 132 σ1) (w2 : jq_wf jq_zM 18 σ2) (y1 : jq_lay jq_zX σ1) (y2 : jq_lay jq_zM σ2) {p1 : Int} (hp1 : jq_r p1) : ∃ (r : Int) (σ1' σ2' : jq_M), X10_soonest p1 σ1 = some (r, σ1') ∧ X11_soonest p1 σ2 = some (r, σ2') ∧ jq_Rel σ1' σ2' := by
  sorry
theorem pr_chain {σ1 σ2 : jq_M} (h : jq_Rel σ1 σ2) (w1 : jq_wf jq_zX 132 σ1) (w2 : jq_wf jq_zM 18 σ2) (y1 : jq_lay jq_zX σ1) (y2 : jq_lay jq_zM σ2) {p1 : Int} (hp1 : jq_r p1) : ∃ (r : Int) (σ1' σ2' : jq_M), X10_chain p1 σ1 = some (r, σ1') ∧ X11_chain p1 σ2 = some (r, σ2') ∧ jq_Rel σ1' σ2' := by
  sorry
theorem pr_agreedIn {σ1 σ2 : jq_M} (h : jq_Rel σ1 σ2) (w1 : jq_wf jq_zX 132 σ1) (w2 : jq_wf jq_zM 18 σ2) (y1 : jq_lay jq_zX σ1) (y2 : jq_lay jq_zM σ2) {p1 : Int} (hp1 : jq_r p1) : ∃ (r : Int) (σ1' σ2' : jq_M), X10_agreedIn p1 σ1 = some (r, σ1') ∧ X11_agreedIn p1 σ2 = some (r, σ2') ∧ jq_Rel σ1' σ2' := by
  sorry
theorem pr_luck {σ1 σ2 : jq_M} (h : jq_Rel σ1 σ2) (w1 : jq_wf jq_zX 132 σ1) (w2 : jq_wf jq_zM 18 σ2) (y1 : jq_lay jq_zX σ1) (y2 : jq_lay jq_zM σ2) {p1 : Int} (hp1 : jq_r p1) : ∃ (r : Int) (σ1' σ2' : jq_M), X10_luck p1 σ1 = some (r, σ1') ∧ X11_luck p1 σ2 = some (r, σ2') ∧ jq_Rel σ1' σ2' := by
  sorry
theorem pr_weakest {σ1 σ2 : jq_M} (h : jq_Rel σ1 σ2) (w1 : jq_wf jq_zX 132 σ1) (w2 : jq_wf jq_zM 18 σ2) (y1 : jq_lay jq_zX σ1) (y2 : jq_lay jq_zM σ2) : ∃ (r : Int) (σ1' σ2' : jq_M), X10_weakest σ1 = some (r, σ1') ∧ X11_weakest σ2 = some (r, σ2') ∧ jq_Rel σ1' σ2' := by
  sorry
theorem pr_copySeats {σ1 σ2 : jq_M} (h : jq_Rel σ1 σ2) (w1 : jq_wf jq_zX 132 σ1) (w2 : jq_wf jq_zM 18 σ2) (y1 : jq_lay jq_zX σ1) (y2 : jq_lay jq_zM σ2) {p1 : Int} (hp1 : jq_r p1) : ∃ (r : Int) (σ1' σ2' : jq_M), X10_copySeats p1 σ1 = some (r, σ1') ∧ X11_copySeats p1 σ2 = some (r, σ2') ∧ jq_Rel σ1' σ2' := by
  sorry
theorem pr_seatBy {σ1 σ2 : jq_M} (h : jq_Rel σ1 σ2) (w1 : jq_wf jq_zX 132 σ1) (w2 : jq_wf jq_zM 18 σ2) (y1 : jq_lay jq_zX σ1) (y2 : jq_lay jq_zM σ2) {p1 : Int} (hp1 : jq_r p1) : ∃ (r : Int) (σ1' σ2' : jq_M), X10_seatBy p1 σ1 = some (r, σ1') ∧ X11_seatBy p1 σ2 = some (r, σ2') ∧ jq_Rel σ1' σ2' := by
  sorry
theorem pr_live {σ1 σ2 : jq_M} (h : jq_Rel σ1 σ2) (w1 : jq_wf jq_zX 132 σ1) (w2 : jq_wf jq_zM 18 σ2) (y1 : jq_lay jq_zX σ1) (y2 : jq_lay jq_zM σ2) {p1 : Int} (hp1 : jq_r p1) : ∃ (r : Int) (σ1' σ2' : jq_M), X10_live p1 σ1 = some (r, σ1') ∧ X11_live p1 σ2 = some (r, σ2') ∧ jq_Rel σ1' σ2' := by
  sorry
theorem pr_lived {σ1 σ2 : jq_M} (h : jq_Rel σ1 σ2) (w1 : jq_wf jq_zX 132 σ1) (w2 : jq_wf jq_zM 18 σ2) (y1 : jq_lay jq_zX σ1) (y2 : jq_lay jq_zM σ2) {p1 : Int} (hp1 : jq_r p1) : ∃ (r : Int) (σ1' σ2' : jq_M), X10_lived p1 σ1 = some (r, σ1') ∧ X11_lived p1 σ2 = some (r, σ2') ∧ jq_Rel σ1' σ2' := by
  sorry
theorem pr_mean {σ1 σ2 : jq_M} (h : jq_Rel σ1 σ2) (w1 : jq_wf jq_zX 132 σ1) (w2 : jq_wf jq_zM 18 σ2) (y1 : jq_lay jq_zX σ1) (y2 : jq_lay jq_zM σ2) {p1 p2 : Int} (hp1 : jq_r p1) (hp2 : jq_r p2) : ∃ (r : Int) (σ1' σ2' : jq_M), X10_mean p1 p2 σ1 = some (r, σ1') ∧ X11_mean p1 p2 σ2 = some (r, σ2') ∧ jq_Rel σ1' σ2' := by
  sorry
theorem pr_mark {σ1 σ2 : jq_M} (h : jq_Rel σ1 σ2) (w1 : jq_wf jq_zX 132 σ1) (w2 : jq_wf jq_zM 18 σ2) (y1 : jq_lay jq_zX σ1) (y2 : jq_lay jq_zM σ2) : ∃ (r : Int) (σ1' σ2' : jq_M), X10_mark σ1 = some (r, σ1') ∧ X11_mark σ2 = some (r, σ2') ∧ jq_Rel σ1' σ2' := by
  sorry
theorem pr_undo {σ1 σ2 : jq_M} (h : jq_Rel σ1 σ2) (w1 : jq_wf jq_zX 132 σ1) (w2 : jq_wf jq_zM 18 σ2) (y1 : jq_lay jq_zX σ1) (y2 : jq_lay jq_zM σ2) : ∃ (r : Int) (σ1' σ2' : jq_M), X10_undo σ1 = some (r, σ1') ∧ X11_undo σ2 = some (r, σ2') ∧ jq_Rel σ1' σ2' := by
  sorry
theorem pr_start : ∃ σ1 σ2 : jq_M, X10_init_0 (jq_al (fun _ _ => 0) 0 (jq_df 7)) = some σ1 ∧ X11_init_0 (jq_al (fun _ _ => 0) 0 (jq_df 8)) = some σ2 ∧ jq_lay jq_zX σ1 ∧ jq_lay jq_zM σ2 ∧ jq_Rel σ1 σ2 := by
  sorry
