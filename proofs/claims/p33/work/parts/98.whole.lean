theorem ans_seed {as : List Int32} {hp hp1 h1 h2 : sm_H} {r1 r2 : Int32} (hl : as.length = 1) (hW : an_WF hp) (hI : ivH IV hp) (m1 : EM 400 134 (.ref 0 :: as.map Value.int) hp (some (.int r1)) h1) (hW1 : an_WF hp1) (hI1 : ivH IV hp1) (m2 : EM 400 246 (.ref 67 :: as.map Value.int) hp1 (some (.int r2)) h2) : r1 = r2 := by
  match as, hl with
  | [x], _ =>
    have tx := an_top x
    have hx : ((-2147483648) ≤ x.toInt ∧ x.toInt ≤ (-1)) ∨ ((0) ≤ x.toInt ∧ x.toInt ≤ (65535)) ∨ ((65536) ≤ x.toInt ∧ x.toInt ≤ (2147483647)) := by omega
    rcases hx with hx | hx | hx
    · exact aRet_eq (xs := [x]) va_c134_0 va_m246_0 ⟨hx, trivial⟩ hW hI m1 hW1 hI1 m2
    · exact aRet_eq (xs := [x]) va_c134_1 va_m246_1 ⟨hx, trivial⟩ hW hI m1 hW1 hI1 m2
    · exact aRet_eq (xs := [x]) va_c134_2 va_m246_2 ⟨hx, trivial⟩ hW hI m1 hW1 hI1 m2
  | [], h => cases h
  | _ :: _ :: _, h => cases h
def cmpOk (q : lw_D) : Prop := ∀ (as : List Int32) (hp hp1 hp2 : sm_H) (r1 r2 : Int32), as.length = q.2.1 → an_WF hp → ivH IV hp → EM 400 q.2.2.2.1 (.ref 0 :: as.map Value.int) hp (some (.int r1)) hp1 → an_WF hp1 → ivH IV hp1 → EM 400 q.2.2.2.2.2.1 (.ref 67 :: as.map Value.int) hp1 (some (.int r2)) hp2 → q.2.2.2.2.2.2 = true → r1 = r2
theorem cmp_no {q : lw_D} (h : q.2.2.2.2.2.2 = false) : cmpOk q := fun _ _ _ _ _ _ _ _ _ _ _ _ _ z => by rw [h] at z; cases z
set_option maxRecDepth 100000 in
theorem cmp_all : ∀ q ∈ lw_ops, cmpOk q := (al_c (cmp_no rfl) (al_c (cmp_no rfl) (al_c (cmp_no rfl) (al_c (cmp_no rfl) (al_c (cmp_no rfl) (al_c (cmp_no rfl) (al_c (cmp_no rfl) (al_c (cmp_no rfl) (al_c (cmp_no rfl) (al_c (cmp_no rfl) (al_c (cmp_no rfl) (al_c (cmp_no rfl) (al_c (cmp_no rfl) (al_c (cmp_no rfl) (al_c (cmp_no rfl) (al_c (cmp_no rfl) (al_c (cmp_no rfl) (al_c (cmp_no rfl) (al_c (cmp_no rfl) (al_c (cmp_no rfl) (al_c (cmp_no rfl) (al_c (cmp_no rfl) (al_c (cmp_no rfl) (al_c (cmp_no rfl) (al_c (cmp_no rfl) (al_c (cmp_no rfl) (al_c (cmp_no rfl) (al_c (cmp_no rfl) (al_c (cmp_no rfl) (al_c (cmp_no rfl) (al_c (cmp_no rfl) (al_c (fun as hp hp1 hp2 r1 r2 hl hW hI m1 w1 i1 m2 _ => ans_seed hl hW hI m1 w1 i1 m2) (al_c (cmp_no rfl) (al_c (cmp_no rfl) (al_c (cmp_no rfl) (al_c (cmp_no rfl) al_n))))))))))))))))))))))))))))))))))))
theorem whole_start {p : Program} {e : Env} {s : State} {m : MethodId} {below : List Frame} {meth : Method} {c : Code} (l : Launch) {b L : Nat} {xs : Nat → Int32} (hL : L ≤ 3072) (C0 : lw_At p s m meth c b L xs) : W p l e room_1 s m #[Value.ref b] below meth c s.heap [] 0 0 (lw_Z below #[Value.ref b] s) (entryFrame m ([Value.ref b] : List Value).toArray 4) := by
  refine lw_from l (D := 400) hL (by decide) (fun _ hp => an_WF hp ∧ ivH IV hp) ⟨wf_0, iv_0⟩ (fun k hp hk hI => ⟨fun q hq as hl => ?_, hI⟩) C0
  obtain ⟨g1, g2⟩ := rt_all q hq
  exact good_of hl g1 g2 hI.1 hI.2 (fun r1 r2 hp1 hp2 m1 w1 i1 m2 w2 i2 => ⟨cmp_all q hq as hp hp1 hp2 r1 r2 hl hI.1 hI.2 m1 w1 i1 m2, w2, i2⟩)
