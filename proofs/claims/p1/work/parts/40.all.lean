theorem pg_all (q : lw_D) (hq : q ∈ lw_ops) (as : List Int32) (h : as.length = q.2.1) : lw_good 67 13 q as lw_h0 (fun _ => True) := by
  unfold lw_ops at hq
  rcases List.mem_cons.mp hq with rfl | hq
  · exact pg_measures as h
  rcases List.mem_cons.mp hq with rfl | hq
  · exact pg_guest as h
  rcases List.mem_cons.mp hq with rfl | hq
  · exact pg_pot as h
  rcases List.mem_cons.mp hq with rfl | hq
  · exact pg_mother as h
  rcases List.mem_cons.mp hq with rfl | hq
  · exact pg_feed as h
  rcases List.mem_cons.mp hq with rfl | hq
  · exact pg_law as h
  rcases List.mem_cons.mp hq with rfl | hq
  · exact pg_ranking as h
  rcases List.mem_cons.mp hq with rfl | hq
  · exact pg_teas as h
  rcases List.mem_cons.mp hq with rfl | hq
  · exact pg_tried as h
  rcases List.mem_cons.mp hq with rfl | hq
  · exact pg_guestIs as h
  rcases List.mem_cons.mp hq with rfl | hq
  · exact pg_likes as h
  rcases List.mem_cons.mp hq with rfl | hq
  · exact pg_pair as h
  rcases List.mem_cons.mp hq with rfl | hq
  · exact pg_firsts as h
  rcases List.mem_cons.mp hq with rfl | hq
  · exact pg_points as h
  rcases List.mem_cons.mp hq with rfl | hq
  · exact pg_runOff as h
  rcases List.mem_cons.mp hq with rfl | hq
  · exact pg_best as h
  rcases List.mem_cons.mp hq with rfl | hq
  · exact pg_set as h
  rcases List.mem_cons.mp hq with rfl | hq
  · exact pg_widest as h
  rcases List.mem_cons.mp hq with rfl | hq
  · exact pg_pathWinners as h
  rcases List.mem_cons.mp hq with rfl | hq
  · exact pg_agenda as h
  rcases List.mem_cons.mp hq with rfl | hq
  · exact pg_orders as h
  rcases List.mem_cons.mp hq with rfl | hq
  · exact pg_power as h
  rcases List.mem_cons.mp hq with rfl | hq
  · exact pg_wonOver as h
  rcases List.mem_cons.mp hq with rfl | hq
  · exact pg_lie as h
  rcases List.mem_cons.mp hq with rfl | hq
  · exact pg_sure as h
  rcases List.mem_cons.mp hq with rfl | hq
  · exact pg_cup as h
  rcases List.mem_cons.mp hq with rfl | hq
  · exact pg_where as h
  rcases List.mem_cons.mp hq with rfl | hq
  · exact pg_end as h
  rcases List.mem_cons.mp hq with rfl | hq
  · exact pg_left as h
  rcases List.mem_cons.mp hq with rfl | hq
  · exact pg_parted as h
  rcases List.mem_cons.mp hq with rfl | hq
  · exact pg_alike as h
  rcases List.mem_cons.mp hq with rfl | hq
  · exact pg_seed as h
  rcases List.mem_cons.mp hq with rfl | hq
  · exact pg_keep as h
  rcases List.mem_cons.mp hq with rfl | hq
  · exact pg_undo as h
  rcases List.mem_cons.mp hq with rfl | hq
  · exact pg_check as h
  rcases List.mem_cons.mp hq with rfl | hq
  · exact pg_count as h
  cases hq
