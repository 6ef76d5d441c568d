/-! what the checks say, as facts of the words -/
noncomputable def sm_W : List Jvm.Cond := lw_tbl.filter goodWord
noncomputable def sm_isN (w : Jvm.Cond) : Bool := match w with
  | .methodLinkNest _ _ _ _ => true
  | _ => false
noncomputable def sm_NW : List Jvm.Cond := lw_tbl.filter sm_isN
theorem sm_inW {w : Jvm.Cond} (h : w ∈ lw_tbl) (hg : goodWord w = true) : w ∈ sm_W := List.mem_filter.mpr ⟨h, hg⟩
theorem sm_W_good : ∀ w ∈ sm_W, (w.onTables && w.keeps) = true ∨ ∃ ty, w = .arrayClass ty := fun w h => good_of_word (List.mem_filter.mp h).2
theorem sm_fl {o idx a b : Nat} (h : sm_FL.any (fun q => Nat.beq q.1 o && Nat.beq q.2.1 idx && Nat.beq q.2.2.1 a && Nat.beq q.2.2.2 b) = true) :
    ∃ r : vw_C, sm_cl[a]? = some r ∧ b < r.2.2 ∧ Jvm.Cond.fieldLink (sm_o o) idx (r.2.1 b).1 (r.2.1 b).2.1 (r.2.1 b).2.2.1 ∈ sm_W := by
  obtain ⟨q, hq, hb⟩ := List.any_eq_true.mp h
  simp only [Bool.and_eq_true, Nat.beq_eq] at hb
  obtain ⟨⟨⟨rfl, rfl⟩, rfl⟩, rfl⟩ := hb
  obtain ⟨r, h1, h2, h3⟩ := sm_FL_ok q hq
  exact ⟨r, h1, h2, sm_inW h3 rfl⟩
theorem sm_ml {o idx a : Nat} (h : sm_ML.any (fun q => Nat.beq q.1 o && Nat.beq q.2.1 idx && Nat.beq q.2.2 a) = true) :
    ∃ E : sm_M, sm_mt a = some E ∧ Jvm.Cond.methodLink (sm_o o) idx E.1 ∈ sm_W := by
  obtain ⟨q, hq, hb⟩ := List.any_eq_true.mp h
  simp only [Bool.and_eq_true, Nat.beq_eq] at hb
  obtain ⟨⟨rfl, rfl⟩, rfl⟩ := hb
  obtain ⟨r, h1, h2⟩ := sm_ML_ok q hq
  exact ⟨r, h1, sm_inW h2 rfl⟩
theorem sm_nl' {o idx a : Nat} (h : sm_NL.any (fun q => Nat.beq q.1 o && Nat.beq q.2.1 idx && Nat.beq q.2.2 a) = true) :
    ∃ E : sm_M, sm_mt a = some E ∧ Jvm.Cond.methodLinkNest (sm_o o) idx E.1 "TeaCabinet" ∈ sm_NW := by
  obtain ⟨q, hq, hb⟩ := List.any_eq_true.mp h
  simp only [Bool.and_eq_true, Nat.beq_eq] at hb
  obtain ⟨⟨rfl, rfl⟩, rfl⟩ := hb
  obtain ⟨r, h1, h2⟩ := sm_NL_ok q hq
  exact ⟨r, h1, List.mem_filter.mpr ⟨h2, rfl⟩⟩
theorem sm_cl' {o idx a : Nat} (h : sm_CL.any (fun q => Nat.beq q.1 o && Nat.beq q.2.1 idx && Nat.beq q.2.2 a) = true) :
    ∃ r : vw_C, sm_cl[a]? = some r ∧ Jvm.Cond.classLink (sm_o o) idx r.1 ∈ sm_W := by
  obtain ⟨q, hq, hb⟩ := List.any_eq_true.mp h
  simp only [Bool.and_eq_true, Nat.beq_eq] at hb
  obtain ⟨⟨rfl, rfl⟩, rfl⟩ := hb
  obtain ⟨r, h1, h2⟩ := sm_CL_ok q hq
  exact ⟨r, h1, sm_inW h2 rfl⟩
theorem sm_kl {o idx a : Nat} (h : sm_KL.any (fun q => Nat.beq q.1 o && Nat.beq q.2.1 idx && Nat.beq q.2.2 a) = true) : Jvm.Cond.constant (sm_o o) idx (Int32.ofNat a) ∈ sm_W := by
  obtain ⟨q, hq, hb⟩ := List.any_eq_true.mp h
  simp only [Bool.and_eq_true, Nat.beq_eq] at hb
  obtain ⟨⟨rfl, rfl⟩, rfl⟩ := hb
  exact sm_inW (sm_KL_ok q hq) rfl
theorem sm_k2 {o idx a : Nat} (h : sm_K2.any (fun q => Nat.beq q.1 o && Nat.beq q.2.1 idx && Nat.beq q.2.2 a) = true) : Jvm.Cond.constantLong (sm_o o) idx (Int64.ofNat a) ∈ sm_W := by
  obtain ⟨q, hq, hb⟩ := List.any_eq_true.mp h
  simp only [Bool.and_eq_true, Nat.beq_eq] at hb
  obtain ⟨⟨rfl, rfl⟩, rfl⟩ := hb
  exact sm_inW (sm_K2_ok q hq) rfl
theorem sm_ol {o idx : Nat} (h : sm_OL.any (fun q => Nat.beq q.1 o && Nat.beq q.2 idx) = true) : Jvm.Cond.methodLink (sm_o o) idx Lib.objectInit ∈ sm_W := by
  obtain ⟨q, hq, hb⟩ := List.any_eq_true.mp h
  simp only [Bool.and_eq_true, Nat.beq_eq] at hb
  obtain ⟨rfl, rfl⟩ := hb
  exact sm_inW (sm_OL_ok q hq) rfl
theorem sm_ac' {o idx : Nat} (h : sm_AC.any (fun q => Nat.beq q.1 o && Nat.beq q.2 idx) = true) : Jvm.Cond.methodLink (sm_o o) idx arraycopyName ∈ sm_W := by
  obtain ⟨q, hq, hb⟩ := List.any_eq_true.mp h
  simp only [Bool.and_eq_true, Nat.beq_eq] at hb
  obtain ⟨rfl, rfl⟩ := hb
  exact sm_inW (sm_AC_ok q hq) rfl
theorem sm_good_lay (C : String) (T : u_T) (k : Nat) : goodWord (u_lay C T k) = true := by
  unfold u_lay
  split <;> rfl
theorem sm_cw {a : Nat} {r : vw_C} (h : sm_cl[a]? = some r) : (∀ w ∈ u_ws r.1 r.2.1 r.2.2, w ∈ sm_W) ∧ Jvm.Cond.instantiable r.1 r.2.2 ∈ sm_W ∧ Jvm.Cond.initialized r.1 ∈ sm_W ∧ sm_o a = r.1 ∧ (∀ k, k < r.2.2 → parseFieldDescriptor (r.2.1 k).2.2.1 = some (sm_ft a k)) ∧ (∀ x, x < r.2.2 → ∀ y, y < r.2.2 → x ≠ y → (r.2.1 x).2.1 ≠ (r.2.1 y).2.1) ∧ ∀ k, k < r.2.2 → (r.2.1 k).1 = r.1 := by
  obtain ⟨a1, a2, a3, a4, a5, a6, a7⟩ := sm_CL0_ok a r h
  refine ⟨fun w hw => ?_, sm_inW a2 rfl, sm_inW a3 rfl, a4, a5, a6, a7⟩
  obtain ⟨k, hk, rfl⟩ := List.mem_map.mp hw
  exact sm_inW (a1 k (List.mem_range.mp hk)) (sm_good_lay _ _ _)
/-- a method's words -/
theorem sm_mw {μ : Nat} {E : sm_M} (h : sm_mt μ = some E) : Jvm.Cond.code E.1 E.2.1 E.2.2.1 E.2.2.2.1 ∈ sm_W ∧ Jvm.Cond.initialized E.1.cls ∈ sm_W ∧ E.1.cls = sm_o E.2.2.2.2.1 ∧ plainFor E.1 = true ∧
    ((E.1.cls ≠ "java/lang/invoke/MethodHandle" ∧ E.1.cls ≠ "java/lang/invoke/VarHandle") ∧ (parseMethodDescriptor E.1.desc).map (fun d => d.parameters.length) = some E.2.2.2.2.2.1) ∧
    (E.2.2.2.2.2.2.1 = 0 → Jvm.Cond.static E.1 ∈ sm_W) ∧ (E.2.2.2.2.2.2.1 = 1 → Jvm.Cond.instanceMethod E.1 ∈ sm_W ∧ Jvm.Cond.selects E.1.cls E.1 E.1 ∈ sm_W) ∧ (E.2.2.2.2.2.2.1 = 2 → Jvm.Cond.instanceMethod E.1 ∈ sm_W ∧ E.1.name = "<init>" ∧ E.2.2.2.1 = none) := by
  obtain ⟨a1, a2, a3, a4, a5, a6, a7, a8⟩ := (sm_all h).1
  exact ⟨sm_inW a1 rfl, sm_inW a2 rfl, a3, a4, a5, fun k => sm_inW (a6 k) rfl, fun k => ⟨sm_inW (a7 k).1 rfl, sm_inW (a7 k).2 rfl⟩, fun k => ⟨sm_inW (a8 k).1 rfl, (a8 k).2⟩⟩
/-- an instruction's facts -/
theorem sm_at0 {pc : Nat} {E : sm_M} {q : sm_I} (hcd : sm_PCd E) (hck : sm_ck E = true) (hq : E.2.2.2.2.2.2.2.2 pc = some q) : decode E.2.1 pc = .ok (q.1, q.2.1) ∧ (sm_sw q.1 = true ∨ q.2.1 = sm_len q.1) ∧ sm_lk E pc q.1 q.2.2.1 q.2.2.2 = true := by
  obtain ⟨t, ht⟩ := hcd
  have hpc : pc < E.2.2.2.2.2.2.2.1 := by
    rw [ht] at hq
    unfold sm_cd at hq
    cases hb : Nat.blt pc E.2.2.2.2.2.2.2.1 with
    | true => exact Nat.blt_eq.mp hb
    | false => rw [hb] at hq; cases hq
  have h1 := List.all_eq_true.mp hck pc (List.mem_range.mpr hpc)
  unfold sm_ck1 at h1
  rw [hq] at h1
  simp only [Bool.and_eq_true] at h1
  obtain ⟨h2, h3⟩ := h1
  cases hd : decode E.2.1 pc with
  | error x => rw [hd] at h2; cases h2
  | ok r =>
    rw [hd] at h2
    simp only [Bool.and_eq_true, decide_eq_true_eq, Bool.or_eq_true, Nat.beq_eq] at h2
    obtain ⟨⟨e1, e2⟩, e3⟩ := h2
    exact ⟨by rw [← e1, ← e2], e3, h3⟩
theorem sm_at {μ pc : Nat} {E : sm_M} {q : sm_I} (hE : sm_mt μ = some E) (hq : E.2.2.2.2.2.2.2.2 pc = some q) : decode E.2.1 pc = .ok (q.1, q.2.1) ∧ (sm_sw q.1 = true ∨ q.2.1 = sm_len q.1) ∧ sm_lk E pc q.1 q.2.2.1 q.2.2.2 = true := sm_at0 (sm_all hE).2.1 (sm_all hE).2.2 hq
