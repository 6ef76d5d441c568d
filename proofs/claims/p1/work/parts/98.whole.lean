theorem whole_start {p : Program} {e : Env} {s : State} {m : MethodId} {below : List Frame} {meth : Method} {c : Code} (l : Launch) {b L : Nat} {xs : Nat → Int32} (hL : L ≤ 6) (C0 : lw_At p s m meth c b L xs) : W p l e room_1 s m #[Value.ref b] below meth c s.heap [] 0 0 (lw_Z below #[Value.ref b] s) (entryFrame m ([Value.ref b] : List Value).toArray 4) := by
  refine lw_from l (D := 13) hL (by decide) (fun k hp => k = 0 → hp = lw_h0) (fun _ => rfl) (fun k hp hk hI => ?_) C0
  obtain rfl : k = 0 := by omega
  have e := hI rfl
  subst e
  refine ⟨fun q hq as hl => ?_, fun z => by cases z⟩
  obtain ⟨h0, r1, r2, hp1, hp2, m1, z1, m2, hc, -⟩ := pg_all q hq as hl
  exact ⟨h0, r1, r2, hp1, hp2, m1, z1, m2, hc, fun z => by cases z⟩
