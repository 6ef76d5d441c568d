/-! an instruction of the shadow machine is one of the machine -/
/-- what stays through a method's run -/
noncomputable def sm_Cx (p : Program) (s : State) (m : MethodId) (args : Array Value) (meth : Method) (c : Code) (G : va_G) (cA : Nat → ClassId) (A : Nat → Prop) (R : Room) (E : sm_M) : Prop :=
  p.tables.exec = Jvm.exec ∧ c.code = E.2.1 ∧ c.maxLocals = E.2.2.1 ∧ s.vm.findClass (sm_o E.2.2.2.2.1) = some m.cls ∧ (∀ w ∈ sm_W, w.before args s = true) ∧ ((∀ w ∈ sm_NW, va_Nw w s) ∧ sm_Sx A s s.heap) ∧ va_K G sm_cl (sm_ty cA) s ∧ (∀ q : Nat, s.heap.size ≤ q → A q) ∧ (E.1.name = "<init>" → meth.name = "<init>") ∧ 9 ≤ R.frames ∧ 576 ≤ R.locals
/-- what is to be shown behind an instruction -/
abbrev sm_KW (p : Program) (l : Launch) (e : Env) (R : Room) (s : State) (m : MethodId) (args : Array Value) (below : List Frame) (meth : Method) (c : Code) (Q : State → Prop) (G : va_G) (cA : Nat → ClassId) (A : Nat → Prop) (nL cells slots : Nat) (ad : Nat → Nat) (hp : sm_H) (f : Nat × sm_L × List Value × sm_H × Nat × Nat) : Prop :=
  ∀ (ad' : Nat → Nat) (arr' : Array Slot) (H' : Heap) (locs' : List Loc), (∀ k, k < hp.length → ad' k = ad k) → (f.2.2.2.2.1 = 0 → ad' = ad) → hp.length ≤ f.2.2.2.1.length → sm_Lc ad' f.2.1 nL arr' → va_P G sm_cl (sm_pic cA ad' f.2.2.2.1) H' → va_D A (sm_pic cA ad' f.2.2.2.1) → va_S A s.heap H' locs' →
    W p l e R s m args below meth c H' locs' (cells + f.2.2.2.2.1) (slots + f.2.2.2.2.2) Q (F0 m f.1 arr' (f.2.2.1.map (sm_cv ad')))
theorem sm_d {b : ByteArray} {pc n : Nat} {i : Instr} (hd : decode b pc = .ok (i, n)) (hl : sm_sw i = true ∨ n = sm_len i) (h0 : sm_sw i = false) : decode b pc = .ok (i, sm_len i) := by
  rcases hl with z | z
  · rw [h0] at z; cases z
  · rw [hd, z]
section ST
variable {p : Program} {l : Launch} {e : Env} {R : Room} {s : State} {m : MethodId} {args : Array Value} {below : List Frame} {meth : Method} {c : Code} {H : Heap} {locs : List Loc} {cells slots : Nat} {Q : State → Prop}
variable {G : va_G} {cA : Nat → ClassId} {ad : Nat → Nat} {A : Nat → Prop} {arr : Array Slot} {nL pc : Nat} {ls : sm_L} {st : List Value} {hp : sm_H} {f : Nat × sm_L × List Value × sm_H × Nat × Nat}
/-- the same heap and locals -/
theorem sm_k0 {pc' : Nat} {st' : List Value} (hL : sm_Lc ad ls nL arr) (hP : va_P G sm_cl (sm_pic cA ad hp) H) (hD : va_D A (sm_pic cA ad hp)) (hS : va_S A s.heap H locs) (K : sm_KW p l e R s m args below meth c Q G cA A nL cells slots ad hp (pc', ls, st', hp, 0, 0)) : W p l e R s m args below meth c H locs cells slots Q (F0 m pc' arr (st'.map (sm_cv ad))) :=
  K ad arr H locs (fun _ _ => rfl) (fun _ => rfl) (Nat.le_refl _) hL hP hD hS
theorem sm_s_i2 {g : Int32 → Int32 → Option Value} (h : sm_i2 st g pc ls hp = some (.inl f)) (hg : ∀ x y v, g x y = some v → sm_cv ad v = v) (row : ∀ (x y : Int32) (v : Value) (r : List Value), g x y = some v → W p l e R s m args below meth c H locs cells slots Q (F0 m (pc + 1) arr (v :: r)) → W p l e R s m args below meth c H locs cells slots Q (F0 m pc arr (.int y :: .int x :: r)))
    (hL : sm_Lc ad ls nL arr) (hP : va_P G sm_cl (sm_pic cA ad hp) H) (hD : va_D A (sm_pic cA ad hp)) (hS : va_S A s.heap H locs) (K : sm_KW p l e R s m args below meth c Q G cA A nL cells slots ad hp f) : W p l e R s m args below meth c H locs cells slots Q (F0 m pc arr (st.map (sm_cv ad))) := by
  unfold sm_i2 at h
  split at h
  · rename_i y x r
    split at h
    · rename_i v hv
      cases h
      have k := sm_k0 hL hP hD hS K
      rw [List.map_cons, hg x y v hv] at k
      exact row x y v _ hv k
    · cases h
  · cases h
theorem sm_s_i1 {g : Int32 → Option Value} (h : sm_i1 st g pc ls hp = some (.inl f)) (hg : ∀ x v, g x = some v → sm_cv ad v = v) (row : ∀ (x : Int32) (v : Value) (r : List Value), g x = some v → W p l e R s m args below meth c H locs cells slots Q (F0 m (pc + 1) arr (v :: r)) → W p l e R s m args below meth c H locs cells slots Q (F0 m pc arr (.int x :: r)))
    (hL : sm_Lc ad ls nL arr) (hP : va_P G sm_cl (sm_pic cA ad hp) H) (hD : va_D A (sm_pic cA ad hp)) (hS : va_S A s.heap H locs) (K : sm_KW p l e R s m args below meth c Q G cA A nL cells slots ad hp f) : W p l e R s m args below meth c H locs cells slots Q (F0 m pc arr (st.map (sm_cv ad))) := by
  unfold sm_i1 at h
  split at h
  · rename_i x r
    split at h
    · rename_i v hv
      cases h
      have k := sm_k0 hL hP hD hS K
      rw [List.map_cons, hg x v hv] at k
      exact row x v _ hv k
    · cases h
  · cases h
theorem sm_s_l2 {g : Int64 → Int64 → Value} (h : sm_l2 st g pc ls hp = some (.inl f)) (hg : ∀ x y, sm_cv ad (g x y) = g x y) (row : ∀ (x y : Int64) (r : List Value), W p l e R s m args below meth c H locs cells slots Q (F0 m (pc + 1) arr (g x y :: r)) → W p l e R s m args below meth c H locs cells slots Q (F0 m pc arr (.long y :: .long x :: r)))
    (hL : sm_Lc ad ls nL arr) (hP : va_P G sm_cl (sm_pic cA ad hp) H) (hD : va_D A (sm_pic cA ad hp)) (hS : va_S A s.heap H locs) (K : sm_KW p l e R s m args below meth c Q G cA A nL cells slots ad hp f) : W p l e R s m args below meth c H locs cells slots Q (F0 m pc arr (st.map (sm_cv ad))) := by
  unfold sm_l2 at h
  split at h
  · rename_i y x r
    cases h
    have k := sm_k0 hL hP hD hS K
    rw [List.map_cons, hg x y] at k
    exact row x y _ k
  · cases h
theorem sm_s_ls {g : Int64 → Int32 → Value} (h : sm_ls st g pc ls hp = some (.inl f)) (hg : ∀ x y, sm_cv ad (g x y) = g x y) (row : ∀ (x : Int64) (y : Int32) (r : List Value), W p l e R s m args below meth c H locs cells slots Q (F0 m (pc + 1) arr (g x y :: r)) → W p l e R s m args below meth c H locs cells slots Q (F0 m pc arr (.int y :: .long x :: r)))
    (hL : sm_Lc ad ls nL arr) (hP : va_P G sm_cl (sm_pic cA ad hp) H) (hD : va_D A (sm_pic cA ad hp)) (hS : va_S A s.heap H locs) (K : sm_KW p l e R s m args below meth c Q G cA A nL cells slots ad hp f) : W p l e R s m args below meth c H locs cells slots Q (F0 m pc arr (st.map (sm_cv ad))) := by
  unfold sm_ls at h
  split at h
  · rename_i y x r
    cases h
    have k := sm_k0 hL hP hD hS K
    rw [List.map_cons, hg x y] at k
    exact row x y _ k
  · cases h
theorem sm_s_ldi {i d : Nat} (h : sm_ldi ls i d pc st hp = some (.inl f)) (row : ∀ (x : Int32) (r : List Value), arr[i]? = some (.val (.int x)) → W p l e R s m args below meth c H locs cells slots Q (F0 m (pc + d) arr (.int x :: r)) → W p l e R s m args below meth c H locs cells slots Q (F0 m pc arr r))
    (hL : sm_Lc ad ls nL arr) (hP : va_P G sm_cl (sm_pic cA ad hp) H) (hD : va_D A (sm_pic cA ad hp)) (hS : va_S A s.heap H locs) (K : sm_KW p l e R s m args below meth c Q G cA A nL cells slots ad hp f) : W p l e R s m args below meth c H locs cells slots Q (F0 m pc arr (st.map (sm_cv ad))) := by
  unfold sm_ldi at h
  split at h
  · rename_i x hx
    cases h
    exact row x _ (sm_ld_at hL hx) (sm_k0 hL hP hD hS K)
  · cases h
theorem sm_s_ldl {i d : Nat} (h : sm_ldl ls i d pc st hp = some (.inl f)) (row : ∀ (x : Int64) (r : List Value), arr[i]? = some (.val (.long x)) → W p l e R s m args below meth c H locs cells slots Q (F0 m (pc + d) arr (.long x :: r)) → W p l e R s m args below meth c H locs cells slots Q (F0 m pc arr r))
    (hL : sm_Lc ad ls nL arr) (hP : va_P G sm_cl (sm_pic cA ad hp) H) (hD : va_D A (sm_pic cA ad hp)) (hS : va_S A s.heap H locs) (K : sm_KW p l e R s m args below meth c Q G cA A nL cells slots ad hp f) : W p l e R s m args below meth c H locs cells slots Q (F0 m pc arr (st.map (sm_cv ad))) := by
  unfold sm_ldl at h
  split at h
  · rename_i x hx
    cases h
    exact row x _ (sm_ld_at hL hx) (sm_k0 hL hP hD hS K)
  · cases h
theorem sm_s_lda {i d : Nat} (h : sm_lda ls i d pc st hp = some (.inl f)) (row : ∀ (x : Nat) (r : List Value), arr[i]? = some (.val (.ref x)) → W p l e R s m args below meth c H locs cells slots Q (F0 m (pc + d) arr (.ref x :: r)) → W p l e R s m args below meth c H locs cells slots Q (F0 m pc arr r))
    (hL : sm_Lc ad ls nL arr) (hP : va_P G sm_cl (sm_pic cA ad hp) H) (hD : va_D A (sm_pic cA ad hp)) (hS : va_S A s.heap H locs) (K : sm_KW p l e R s m args below meth c Q G cA A nL cells slots ad hp f) : W p l e R s m args below meth c H locs cells slots Q (F0 m pc arr (st.map (sm_cv ad))) := by
  unfold sm_lda at h
  split at h
  · rename_i x hx
    cases h
    exact row (ad x) _ (sm_ld_at hL hx) (sm_k0 hL hP hD hS K)
  · cases h
/-- a store -/
theorem sm_s_st1 {i d : Nat} {v : Value} {r : List Value} (h : sm_nl (pc + d) (sm_st1 ls i v) r hp = some (.inl f)) (row : ∀ (lv : List (Nat × Value)), lv_has arr nL lv → i < nL → (∀ arr' : Array Slot, lv_has arr' nL ((i, sm_cv ad v) :: lv.filter (fun q => !(q.1 == i) && !(q.1 + 1 == i && q.2.category == 2))) → W p l e R s m args below meth c H locs cells slots Q (F0 m (pc + d) arr' (r.map (sm_cv ad)))) → W p l e R s m args below meth c H locs cells slots Q (F0 m pc arr (st.map (sm_cv ad))))
    (hL : sm_Lc ad ls nL arr) (hP : va_P G sm_cl (sm_pic cA ad hp) H) (hD : va_D A (sm_pic cA ad hp)) (hS : va_S A s.heap H locs) (K : sm_KW p l e R s m args below meth c Q G cA A nL cells slots ad hp f) : W p l e R s m args below meth c H locs cells slots Q (F0 m pc arr (st.map (sm_cv ad))) := by
  unfold sm_nl at h
  split at h
  · rename_i ls' hs
    cases h
    exact row _ hL.has (sm_st1_lt hL hs) (fun arr' ha => K ad arr' H locs (fun _ _ => rfl) (fun _ => rfl) (Nat.le_refl _) (sm_Lc_st1 hL hs ha) hP hD hS)
  · cases h
theorem sm_s_st2 {i d : Nat} {v : Value} {r : List Value} (h : sm_nl (pc + d) (sm_st2 ls i v) r hp = some (.inl f)) (row : ∀ (lv : List (Nat × Value)), lv_has arr nL lv → i + 1 < nL → (∀ arr' : Array Slot, lv_has arr' nL ((i, sm_cv ad v) :: lv.filter (fun q => !(q.1 == i) && (!(q.1 == i + 1) && !(q.1 + 1 == i && q.2.category == 2)))) → W p l e R s m args below meth c H locs cells slots Q (F0 m (pc + d) arr' (r.map (sm_cv ad)))) → W p l e R s m args below meth c H locs cells slots Q (F0 m pc arr (st.map (sm_cv ad))))
    (hL : sm_Lc ad ls nL arr) (hP : va_P G sm_cl (sm_pic cA ad hp) H) (hD : va_D A (sm_pic cA ad hp)) (hS : va_S A s.heap H locs) (K : sm_KW p l e R s m args below meth c Q G cA A nL cells slots ad hp f) : W p l e R s m args below meth c H locs cells slots Q (F0 m pc arr (st.map (sm_cv ad))) := by
  unfold sm_nl at h
  split at h
  · rename_i ls' hs
    cases h
    exact row _ hL.has (sm_st2_lt hL hs) (fun arr' ha => K ad arr' H locs (fun _ _ => rfl) (fun _ => rfl) (Nat.le_refl _) (sm_Lc_st2 hL hs ha) hP hD hS)
  · cases h
/-- a cell is changed -/
theorem sm_k1 {pc' k : Nat} {st' : List Value} {cl' : sm_C} {H1 : Heap} {locs1 : List Loc} (hL : sm_Lc ad ls nL arr) (hP : va_P G sm_cl ((sm_pic cA ad hp).set k (ad k, sm_ce cA ad cl')) H1) (hD : va_D A ((sm_pic cA ad hp).set k (ad k, sm_ce cA ad cl'))) (hS : va_S A s.heap H1 locs1) (K : sm_KW p l e R s m args below meth c Q G cA A nL cells slots ad hp (pc', ls, st', hp.set k cl', 0, 0)) : W p l e R s m args below meth c H1 locs1 cells slots Q (F0 m pc' arr (st'.map (sm_cv ad))) :=
  K ad arr H1 locs1 (fun _ _ => rfl) (fun _ => rfl) (by rw [List.length_set]; exact Nat.le_refl _) hL (by rw [sm_pic_set]; exact hP) (by rw [sm_pic_set]; exact hD) hS
/-- a cell is new -/
theorem sm_kn {pc' q dc ds : Nat} {r : List Value} {cl' : sm_C} {H1 : Heap} {locs1 : List Loc} (hdc : dc ≠ 0) (hr1 : sm_rl hp.length ls = true) (hr2 : sm_rs hp.length r = true) (hr3 : sm_rh hp.length hp = true) (hce : sm_ce cA ad cl' = sm_ce cA (fun j => if j = hp.length then q else ad j) cl') (hL : sm_Lc ad ls nL arr) (hP : va_P G sm_cl (sm_pic cA ad hp ++ [(q, sm_ce cA ad cl')]) H1) (hD : va_D A (sm_pic cA ad hp ++ [(q, sm_ce cA ad cl')])) (hS : va_S A s.heap H1 locs1) (K : sm_KW p l e R s m args below meth c Q G cA A nL cells slots ad hp (pc', ls, .ref hp.length :: r, hp ++ [cl'], dc, ds)) : W p l e R s m args below meth c H1 locs1 (cells + dc) (slots + ds) Q (F0 m pc' arr (.ref q :: r.map (sm_cv ad))) := by
  have ha : ∀ k, k < hp.length → (fun j => if j = hp.length then q else ad j) k = ad k := fun k hk => if_neg (by omega)
  have e1 : sm_pic cA (fun j => if j = hp.length then q else ad j) (hp ++ [cl']) = sm_pic cA ad hp ++ [(q, sm_ce cA ad cl')] := by
    rw [sm_pic_app, sm_pic_ext hr3 ha, ← hce]
    simp
  have k := K (fun j => if j = hp.length then q else ad j) arr H1 locs1 ha (fun z => absurd z hdc) (by simp) (sm_Lc_ext hL hr1 ha) (by rw [e1]; exact hP) (by rw [e1]; exact hD) hS
  have e2 : (Value.ref hp.length :: r).map (sm_cv (fun j => if j = hp.length then q else ad j)) = .ref q :: r.map (sm_cv ad) := by
    rw [List.map_cons, sm_st_ext hr2 ha]
    congr 1
    show Value.ref (if hp.length = hp.length then q else ad hp.length) = _
    rw [if_pos rfl]
  have k : W p l e R s m args below meth c H1 locs1 (cells + dc) (slots + ds) Q (F0 m pc' arr ((Value.ref hp.length :: r).map (sm_cv (fun j => if j = hp.length then q else ad j)))) := k
  rw [e2] at k
  exact k
end ST
