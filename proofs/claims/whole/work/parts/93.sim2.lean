/-! both in step at a call, by method -/
theorem s2_house {cs : CS} {ms : MS} (R : Rel cs ms) (p1 p2 : Int32) : Sim2 (wC_X11_house p1 p2 cs) (wM_house p1 p2 ms) := by
  obtain ⟨r, cs', ms', h1, h2, h3, -⟩ := sim_house R p1 p2
  exact Sim2.of h1 h2 h3
theorem s2_clown {cs : CS} {ms : MS} (R : Rel cs ms) (p1 p2 : Int32) : Sim2 (wC_X11_clown p1 p2 cs) (wM_clown p1 p2 ms) := by
  obtain ⟨r, cs', ms', h1, h2, h3, -⟩ := sim_clown R p1 p2
  exact Sim2.of h1 h2 h3
theorem s2_mood {cs : CS} {ms : MS} (R : Rel cs ms) (p1 p2 p3 : Int32) : Sim2 (wC_X11_mood p1 p2 p3 cs) (wM_mood p1 p2 p3 ms) := by
  obtain ⟨r, cs', ms', h1, h2, h3, -⟩ := sim_mood R p1 p2 p3
  exact Sim2.of h1 h2 h3
theorem s2_feed {cs : CS} {ms : MS} (R : Rel cs ms) (p1 p2 p3 p4 p5 : Int32) : Sim2 (wC_X11_feed p1 p2 p3 p4 p5 cs) (wM_feed p1 p2 p3 p4 p5 ms) := by
  obtain ⟨r, cs', ms', h1, h2, h3⟩ := sim_feed R p1 p2 p3 p4 p5
  exact Sim2.of h1 h2 h3
theorem s2_end {cs : CS} {ms : MS} (R : Rel cs ms) (p1 : Int32) : Sim2 (wC_X11_end p1 cs) (wM_end p1 ms) := by
  obtain ⟨r, cs', ms', h1, h2, h3⟩ := sim_end R p1
  exact Sim2.of h1 h2 h3
theorem s2_text {cs : CS} {ms : MS} (R : Rel cs ms) : Sim2 (wC_X11_text cs) (wM_text ms) := by
  obtain ⟨r, ms', h1, h2⟩ := sim_text R
  exact ⟨r, ms', h1 _ ⟨rfl, rfl⟩, h2 _ (fun cs' h => ⟨rfl, h⟩)⟩
theorem s2_fault {cs : CS} {ms : MS} (R : Rel cs ms) (p1 : Int32) : Sim2 (wC_X11_fault p1 cs) (wM_fault p1 ms) := by
  obtain ⟨r, cs', ms', h1, h2, h3⟩ := sim_fault R p1
  exact Sim2.of h1 h2 h3
theorem s2_by {cs : CS} {ms : MS} (R : Rel cs ms) (p1 : Int32) : Sim2 (wC_X11_by p1 cs) (wM_by p1 ms) := by
  obtain ⟨r, cs', ms', h1, h2, h3, -⟩ := sim_by R p1
  exact Sim2.of h1 h2 h3
theorem s2_send {cs : CS} {ms : MS} (R : Rel cs ms) (p1 p2 : Int32) : Sim2 (wC_X11_send p1 p2 cs) (wM_send p1 p2 ms) := by
  obtain ⟨r, cs', ms', h1, h2, h3, -⟩ := sim_send R p1 p2
  exact Sim2.of h1 h2 h3
theorem s2_fall {cs : CS} {ms : MS} (R : Rel cs ms) (p1 p2 : Int32) : Sim2 (wC_X11_fall p1 p2 cs) (wM_fall p1 p2 ms) := by
  obtain ⟨r, cs', ms', h1, h2, h3, -⟩ := sim_fall R p1 p2
  exact Sim2.of h1 h2 h3
theorem s2_rest {cs : CS} {ms : MS} (R : Rel cs ms) (p1 : Int32) : Sim2 (wC_X11_rest p1 cs) (wM_rest p1 ms) := by
  obtain ⟨r, cs', ms', h1, h2, h3, -⟩ := sim_rest R p1
  exact Sim2.of h1 h2 h3
theorem s2_day {cs : CS} {ms : MS} (R : Rel cs ms) (p1 : Int32) : Sim2 (wC_X11_day p1 cs) (wM_day p1 ms) := by
  obtain ⟨r, cs', ms', h1, h2, h3⟩ := sim_day R p1
  exact Sim2.of h1 h2 h3
theorem s2_played {cs : CS} {ms : MS} (R : Rel cs ms) (p1 : Int32) : Sim2 (wC_X11_played p1 cs) (wM_played p1 ms) := by
  obtain ⟨r, cs', ms', h1, h2, h3⟩ := sim_played R p1
  exact Sim2.of h1 h2 h3
theorem s2_decades {cs : CS} {ms : MS} (R : Rel cs ms) (p1 p2 : Int32) : Sim2 (wC_X11_decades p1 p2 cs) (wM_decades p1 p2 ms) := by
  obtain ⟨r, cs', ms', h1, h2, h3⟩ := sim_decades R p1 p2
  exact Sim2.of h1 h2 h3
theorem s2_undo {cs : CS} {ms : MS} (R : Rel cs ms) : Sim2 (wC_X11_undo cs) (wM_undo ms) := by
  obtain ⟨r, cs', ms', h1, h2, h3⟩ := sim_undo R
  exact Sim2.of h1 h2 h3
theorem s2_of {cs : CS} {ms : MS} (R : Rel cs ms) (p1 p2 : Int32) : Sim2 (wC_X11_of p1 p2 cs) (wM_of p1 p2 ms) := by
  obtain ⟨r, cs', ms', h1, h2, h3⟩ := sim_of R p1 p2
  exact Sim2.of h1 h2 h3
theorem s2_ofClown {cs : CS} {ms : MS} (R : Rel cs ms) (p1 p2 : Int32) : Sim2 (wC_X11_ofClown p1 p2 cs) (wM_ofClown p1 p2 ms) := by
  obtain ⟨r, cs', ms', h1, h2, h3⟩ := sim_ofClown R p1 p2
  exact Sim2.of h1 h2 h3
theorem s2_eased {cs : CS} {ms : MS} (R : Rel cs ms) (p1 p2 : Int32) : Sim2 (wC_X11_eased p1 p2 cs) (wM_eased p1 p2 ms) := by
  obtain ⟨r, cs', ms', h1, h2, h3⟩ := sim_eased R p1 p2
  exact Sim2.of h1 h2 h3
theorem s2_laughs {cs : CS} {ms : MS} (R : Rel cs ms) (p1 p2 : Int32) : Sim2 (wC_X11_laughs p1 p2 cs) (wM_laughs p1 p2 ms) := by
  obtain ⟨r, cs', ms', h1, h2, h3⟩ := sim_laughs R p1 p2
  exact Sim2.of h1 h2 h3
theorem s2_is {cs : CS} {ms : MS} (R : Rel cs ms) (p1 : Int32) : Sim2 (wC_X11_is p1 cs) (wM_is p1 ms) := by
  obtain ⟨r, cs', ms', h1, h2, h3⟩ := sim_is R p1
  exact Sim2.of h1 h2 h3
theorem s2_book {cs : CS} {ms : MS} (R : Rel cs ms) (p1 p2 : Int32) : Sim2 (wC_X11_book p1 p2 cs) (wM_book p1 p2 ms) := by
  obtain ⟨r, cs', ms', h1, h2, h3⟩ := sim_book R p1 p2
  exact Sim2.of h1 h2 h3
theorem s2_foretold {cs : CS} {ms : MS} (R : Rel cs ms) (p1 p2 : Int32) : Sim2 (wC_X11_foretold p1 p2 cs) (wM_foretold p1 p2 ms) := by
  obtain ⟨r, cs', ms', h1, h2, h3⟩ := sim_foretold R p1 p2
  exact Sim2.of h1 h2 h3
theorem s2_heavy {cs : CS} {ms : MS} (R : Rel cs ms) (p1 : Int32) : Sim2 (wC_X11_heavy p1 cs) (wM_heavy p1 ms) := by
  obtain ⟨r, cs', ms', h1, h2, h3⟩ := sim_heavy R p1
  exact Sim2.of h1 h2 h3
theorem s2_told {cs : CS} {ms : MS} (R : Rel cs ms) (p1 p2 : Int32) : Sim2 (wC_X11_told p1 p2 cs) (wM_told p1 p2 ms) := by
  obtain ⟨r, cs', ms', h1, h2, h3⟩ := sim_told R p1 p2
  exact Sim2.of h1 h2 h3
theorem s2_order {cs : CS} {ms : MS} (R : Rel cs ms) (p1 p2 : Int32) : Sim2 (wC_X11_order p1 p2 cs) (wM_order p1 p2 ms) := by
  obtain ⟨r, cs', ms', h1, h2, h3⟩ := sim_order R p1 p2
  exact Sim2.of h1 h2 h3
theorem s2_all {cs : CS} {ms : MS} (R : Rel cs ms) (p1 : Int32) : Sim2 (wC_X11_all p1 cs) (wM_all p1 ms) := by
  obtain ⟨r, cs', ms', h1, h2, h3⟩ := sim_all R p1
  exact Sim2.of h1 h2 h3
theorem s2_comfort {cs : CS} {ms : MS} (R : Rel cs ms) (p1 p2 p3 : Int32) : Sim2 (wC_X11_comfort p1 p2 p3 cs) (wM_comfort p1 p2 p3 ms) := by
  obtain ⟨r, cs', ms', h1, h2, h3⟩ := sim_comfort R p1 p2 p3
  exact Sim2.of h1 h2 h3
theorem s2_ring {cs : CS} {ms : MS} (R : Rel cs ms) (p1 : Int32) : Sim2 (wC_X11_ring p1 cs) (wM_ring p1 ms) := by
  obtain ⟨r, cs', ms', h1, h2, h3⟩ := sim_ring R p1
  exact Sim2.of h1 h2 h3
theorem s2_cost {cs : CS} {ms : MS} (R : Rel cs ms) (p1 p2 p3 : Int32) : Sim2 (wC_X11_cost p1 p2 p3 cs) (wM_cost p1 p2 p3 ms) := by
  obtain ⟨r, cs', ms', h1, h2, h3, -⟩ := sim_cost R p1 p2 p3
  exact Sim2.of h1 h2 h3
theorem s2_matched {cs : CS} {ms : MS} (R : Rel cs ms) (p1 : Int32) : Sim2 (wC_X11_matched p1 cs) (wM_matched p1 ms) := by
  obtain ⟨r, cs', ms', h1, h2, h3⟩ := sim_matched R p1
  exact Sim2.of h1 h2 h3
theorem s2_bore {cs : CS} {ms : MS} (R : Rel cs ms) (p1 p2 : Int32) : Sim2 (wC_X11_bore p1 p2 cs) (wM_bore p1 p2 ms) := by
  obtain ⟨r, cs', ms', h1, h2, h3⟩ := sim_bore R p1 p2
  exact Sim2.of h1 h2 h3
theorem s2_bears {cs : CS} {ms : MS} (R : Rel cs ms) (p1 : Int32) : Sim2 (wC_X11_bears p1 cs) (wM_bears p1 ms) := by
  obtain ⟨r, cs', ms', h1, h2, h3⟩ := sim_bears R p1
  exact Sim2.of h1 h2 h3
theorem s2_next {cs : CS} {ms : MS} (R : Rel cs ms) (p1 : Int32) : Sim2 (wC_X11_next p1 cs) (wM_next p1 ms) := by
  obtain ⟨r, cs', ms', h1, h2, h3⟩ := sim_next R p1
  exact Sim2.of h1 h2 h3
theorem s2_worth {cs : CS} {ms : MS} (R : Rel cs ms) (p1 p2 : Int32) : Sim2 (wC_X11_worth p1 p2 cs) (wM_worth p1 p2 ms) := by
  obtain ⟨r, cs', ms', h1, h2, h3, -⟩ := sim_worth R p1 p2
  exact Sim2.of h1 h2 h3
theorem s2_share {cs : CS} {ms : MS} (R : Rel cs ms) (p1 p2 p3 : Int32) : Sim2 (wC_X11_share p1 p2 p3 cs) (wM_share p1 p2 p3 ms) := by
  obtain ⟨r, cs', ms', h1, h2, h3⟩ := sim_share R p1 p2 p3
  exact Sim2.of h1 h2 h3
theorem s2_stays {cs : CS} {ms : MS} (R : Rel cs ms) (p1 p2 p3 p4 : Int32) : Sim2 (wC_X11_stays p1 p2 p3 p4 cs) (wM_stays p1 p2 p3 p4 ms) := by
  obtain ⟨r, cs', ms', h1, h2, h3⟩ := sim_stays R p1 p2 p3 p4
  exact Sim2.of h1 h2 h3
theorem s2_behind {cs : CS} {ms : MS} (R : Rel cs ms) (p1 p2 : Int32) : Sim2 (wC_X11_behind p1 p2 cs) (wM_behind p1 p2 ms) := by
  obtain ⟨r, cs', ms', h1, h2, h3, -⟩ := sim_behind R p1 p2
  exact Sim2.of h1 h2 h3
theorem s2_lessons {cs : CS} {ms : MS} (R : Rel cs ms) (p1 : Int32) : Sim2 (wC_X11_lessons p1 cs) (wM_lessons p1 ms) := by
  obtain ⟨r, cs', ms', h1, h2, h3⟩ := sim_lessons R p1
  exact Sim2.of h1 h2 h3
theorem s2_grown {cs : CS} {ms : MS} (R : Rel cs ms) (p1 p2 : Int32) : Sim2 (wC_X11_grown p1 p2 cs) (wM_grown p1 p2 ms) := by
  obtain ⟨r, cs', ms', h1, h2, h3⟩ := sim_grown R p1 p2
  exact Sim2.of h1 h2 h3
theorem s2_whose {cs : CS} {ms : MS} (R : Rel cs ms) : Sim2 (wC_X11_whose cs) (wM_whose ms) := by
  obtain ⟨r, cs', ms', h1, h2, h3⟩ := sim_whose R
  exact Sim2.of h1 h2 h3
theorem s2_clocks {cs : CS} {ms : MS} (R : Rel cs ms) (p1 : Int32) : Sim2 (wC_X11_clocks p1 cs) (wM_clocks p1 ms) := by
  obtain ⟨r, cs', ms', h1, h2, h3⟩ := sim_clocks R p1
  exact Sim2.of h1 h2 h3
theorem s2_saddest {cs : CS} {ms : MS} (R : Rel cs ms) : Sim2 (wC_X11_saddest cs) (wM_saddest ms) := by
  obtain ⟨r, cs', ms', h1, h2, h3⟩ := sim_saddest R
  exact Sim2.of h1 h2 h3
theorem s2_tiredest {cs : CS} {ms : MS} (R : Rel cs ms) : Sim2 (wC_X11_tiredest cs) (wM_tiredest ms) := by
  obtain ⟨r, cs', ms', h1, h2, h3⟩ := sim_tiredest R
  exact Sim2.of h1 h2 h3
theorem s2_sitting {cs : CS} {ms : MS} (R : Rel cs ms) : Sim2 (wC_X11_sitting cs) (wM_sitting ms) := by
  obtain ⟨r, cs', ms', h1, h2, h3⟩ := sim_sitting R
  exact Sim2.of h1 h2 h3
theorem s2_ledger {cs : CS} {ms : MS} (R : Rel cs ms) (p1 : Int32) : Sim2 (wC_X11_ledger p1 cs) (wM_ledger p1 ms) := by
  obtain ⟨r, cs', ms', h1, h2, h3⟩ := sim_ledger R p1
  exact Sim2.of h1 h2 h3
theorem s2_image {cs : CS} {ms : MS} (R : Rel cs ms) : Sim2 (wC_X11_image cs) (wM_image ms) := by
  obtain ⟨r, cs', ms', h1, h2, h3⟩ := sim_image R
  exact Sim2.of h1 h2 h3
theorem s2_back {cs : CS} {ms : MS} (R : Rel cs ms) : Sim2 (wC_X11_back cs) (wM_back ms) := by
  obtain ⟨r, cs', ms', h1, h2, h3⟩ := sim_back R
  exact Sim2.of h1 h2 h3
theorem s2_about {cs : CS} {ms : MS} (R : Rel cs ms) (p1 : Int32) : Sim2 (wC_X11_about p1 cs) (wM_about p1 ms) := by
  obtain ⟨r, cs', ms', h1, h2, h3⟩ := sim_about R p1
  exact Sim2.of h1 h2 h3
