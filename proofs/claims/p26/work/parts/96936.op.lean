/-! relations one upon another -/
/-- R is kept where P holds -/
noncomputable def opP (P R : sm_H → Prop) (q : lw_D) : Prop := ∀ (as : List Int32) (hp hp1 hp2 : sm_H) (r1 r2 : Int32), as.length = q.2.1 → an_WF hp → ivH IV hp → P hp → R hp → EM 400 q.2.2.2.1 (.ref 0 :: as.map Value.int) hp (some (.int r1)) hp1 → an_WF hp1 → ivH IV hp1 → EM 400 q.2.2.2.2.2.1 (.ref 67 :: as.map Value.int) hp1 (some (.int r2)) hp2 → an_WF hp2 → ivH IV hp2 → R hp2
theorem opP_of {P R : sm_H → Prop} {q : lw_D} (h : opQ R q) : opP P R q := fun as hp hp1 hp2 r1 r2 hl hW hI _ hR => h as hp hp1 hp2 r1 r2 hl hW hI hR
theorem opP_and {P R : sm_H → Prop} (h : ∀ q ∈ lw_ops, opQ P q) (h' : ∀ q ∈ lw_ops, opP P R q) : ∀ q ∈ lw_ops, opQ (fun hp => P hp ∧ R hp) q := fun q hq as hp hp1 hp2 r1 r2 hl hW hI hR m1 hW1 hI1 m2 hW2 hI2 => ⟨h q hq as hp hp1 hp2 r1 r2 hl hW hI hR.1 m1 hW1 hI1 m2 hW2 hI2, h' q hq as hp hp1 hp2 r1 r2 hl hW hI hR.1 hR.2 m1 hW1 hI1 m2 hW2 hI2⟩
