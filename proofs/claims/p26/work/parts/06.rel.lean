/-! the shadow machine's pictures of the machine's state -/
noncomputable def sm_cv (ad : Nat → Nat) (v : Value) : Value := match v with
  | .ref k => .ref (ad k)
  | v => v
theorem sm_cv_cat (ad : Nat → Nat) (v : Value) : (sm_cv ad v).category = v.category := by cases v <;> rfl
noncomputable def sm_ce (cA : Nat → ClassId) (ad : Nat → Nat) (c : sm_C) : va_E := match c with
  | .inl (k, .inl l) => .inl (cA k, l.length, .inl (fun j => l.getD j 0))
  | .inl (k, .inr l) => .inl (cA k, l.length, .inr (.inl (fun j => l.getD j 0)))
  | .inr o => .inr (o.1, o.2.map (sm_cv ad))
noncomputable def sm_pic (cA : Nat → ClassId) (ad : Nat → Nat) (hp : sm_H) : va_W := hp.mapIdx (fun k c => (ad k, sm_ce cA ad c))
noncomputable def sm_ty (cA : Nat → ClassId) : List (ClassId × FieldType) := [(cA 0, .int), (cA 1, .long), (cA 2, .byte)]
section REL
variable {cA : Nat → ClassId} {ad ad' : Nat → Nat} {hp : sm_H} {k n : Nat} {c : sm_C} {v : Value} {ls : sm_L} {st : List Value}
theorem sm_pic_at (h : hp[k]? = some c) : (sm_pic cA ad hp)[k]? = some (ad k, sm_ce cA ad c) := by simp [sm_pic, h]
theorem sm_pic_len : (sm_pic cA ad hp).length = hp.length := by simp [sm_pic]
theorem sm_pic_set : sm_pic cA ad (hp.set k c) = (sm_pic cA ad hp).set k (ad k, sm_ce cA ad c) := by
  apply List.ext_getElem?
  intro i
  simp only [sm_pic, List.getElem?_mapIdx, List.getElem?_set, List.length_mapIdx]
  by_cases h : k = i
  · subst h
    by_cases h2 : k < hp.length <;> simp [h2]
  · simp [h]
theorem sm_pic_app : sm_pic cA ad (hp ++ [c]) = sm_pic cA ad hp ++ [(ad hp.length, sm_ce cA ad c)] := by
  unfold sm_pic
  rw [List.mapIdx_append]
  simp
theorem sm_cv_ext (h : sm_rv n v = true) (ha : ∀ k, k < n → ad' k = ad k) : sm_cv ad' v = sm_cv ad v := by
  cases v with
  | ref k =>
    have h1 : k < n := Nat.blt_eq.mp h
    show Value.ref (ad' k) = Value.ref (ad k)
    rw [ha k h1]
  | _ => rfl
theorem sm_pic_ext (h : sm_rh hp.length hp = true) (ha : ∀ k, k < hp.length → ad' k = ad k) : sm_pic cA ad' hp = sm_pic cA ad hp := by
  apply List.ext_getElem?
  intro i
  simp only [sm_pic, List.getElem?_mapIdx]
  cases hc : hp[i]? with
  | none => rfl
  | some c =>
    have hi : i < hp.length := (List.getElem?_eq_some_iff.mp hc).1
    have h1 := List.all_eq_true.mp h c (List.mem_of_getElem? hc)
    simp only [Option.map_some]
    rw [ha i hi]
    congr 2
    cases c with
    | inl a =>
      obtain ⟨k, l⟩ := a
      cases l <;> rfl
    | inr o =>
      show Sum.inr (o.1, o.2.map (sm_cv ad')) = Sum.inr (o.1, o.2.map (sm_cv ad))
      rw [List.map_congr_left (fun v hv => sm_cv_ext (List.all_eq_true.mp h1 v hv) ha)]
theorem sm_st_ext (h : sm_rs n st = true) (ha : ∀ k, k < n → ad' k = ad k) : st.map (sm_cv ad') = st.map (sm_cv ad) :=
  List.map_congr_left (fun v hv => sm_cv_ext (List.all_eq_true.mp h v hv) ha)
/-- the locals -/
noncomputable def sm_Lc (ad : Nat → Nat) (ls : sm_L) (nL : Nat) (arr : Array Slot) : Prop := arr.size = nL ∧ lv_wf arr ∧ ls.length = nL ∧ ∀ (i : Nat) (v : Value), ls[i]? = some (some v) → arr[i]? = some (.val (sm_cv ad v))
noncomputable def sm_lv (ad : Nat → Nat) (ls : sm_L) : List (Nat × Value) := (List.range ls.length).filterMap (fun i => match ls[i]? with
  | some (some v) => some (i, sm_cv ad v)
  | _ => none)
theorem sm_lv_of {i : Nat} (h : ls[i]? = some (some v)) : (i, sm_cv ad v) ∈ sm_lv ad ls := by
  refine List.mem_filterMap.mpr ⟨i, List.mem_range.mpr (List.getElem?_eq_some_iff.mp h).1, ?_⟩
  rw [h]
theorem sm_lv_to {q : Nat × Value} (h : q ∈ sm_lv ad ls) : ∃ v, ls[q.1]? = some (some v) ∧ q.2 = sm_cv ad v := by
  obtain ⟨i, -, h2⟩ := List.mem_filterMap.mp h
  split at h2
  · rename_i v hv
    cases h2
    exact ⟨v, hv, rfl⟩
  · cases h2
variable {arr arr' : Array Slot} {nL : Nat}
theorem sm_Lc.has (h : sm_Lc ad ls nL arr) : lv_has arr nL (sm_lv ad ls) := ⟨h.1, h.2.1, fun q hq => by
  obtain ⟨v, h1, h2⟩ := sm_lv_to hq
  rw [h2]
  exact h.2.2.2 _ _ h1⟩
theorem sm_clr_len (i : Nat) : (sm_clr ls i).length = ls.length := by
  unfold sm_clr
  split
  · rfl
  · split
    · split
      · simp
      · rfl
    · rfl
theorem sm_clr_get {i j : Nat} (h : (sm_clr ls i)[j]? = some (some v)) : ls[j]? = some (some v) ∧ ¬ (j + 1 = i ∧ v.category = 2) := by
  cases i with
  | zero => exact ⟨h, fun z => by omega⟩
  | succ k =>
    simp only [sm_clr] at h
    split at h
    · rename_i u hu
      split at h
      · by_cases hj : k = j
        · subst hj
          rw [List.getElem?_set] at h
          simp at h
        · rw [List.getElem?_set, if_neg hj] at h
          exact ⟨h, fun z => hj (by omega)⟩
      · rename_i hc
        refine ⟨h, fun z => ?_⟩
        have hj : k = j := by omega
        subst hj
        rw [hu] at h
        cases h
        exact hc z.2
    · rename_i hn
      refine ⟨h, fun z => ?_⟩
      have hj : k = j := by omega
      subst hj
      exact hn _ h
theorem sm_Lc_st1 {i : Nat} {ls' : sm_L} (h : sm_Lc ad ls nL arr) (h1 : sm_st1 ls i v = some ls') (h2 : lv_has arr' nL ((i, sm_cv ad v) :: (sm_lv ad ls).filter (fun q => !(q.1 == i) && !(q.1 + 1 == i && q.2.category == 2)))) : sm_Lc ad ls' nL arr' := by
  unfold sm_st1 at h1
  split at h1
  · cases h1
    refine ⟨h2.1, h2.2.1, by rw [List.length_set, sm_clr_len]; exact h.2.2.1, fun j w hj => ?_⟩
    by_cases he : i = j
    · subst he
      rw [List.getElem?_set_self (by rw [sm_clr_len]; assumption)] at hj
      cases hj
      exact h2.2.2 (i, sm_cv ad v) List.mem_cons_self
    · rw [List.getElem?_set, if_neg he] at hj
      obtain ⟨g1, g2⟩ := sm_clr_get hj
      refine h2.2.2 (j, sm_cv ad w) (List.mem_cons_of_mem _ (List.mem_filter.mpr ⟨sm_lv_of g1, ?_⟩))
      simp only [sm_cv_cat, Bool.and_eq_true, Bool.not_eq_true', beq_eq_false_iff_ne, Bool.and_eq_false_iff, beq_eq_false_iff_ne]
      refine ⟨fun z => he z.symm, ?_⟩
      by_cases h3 : j + 1 = i
      · right
        exact fun z => g2 ⟨h3, z⟩
      · left
        exact h3
  · cases h1
theorem sm_Lc_st2 {i : Nat} {ls' : sm_L} (h : sm_Lc ad ls nL arr) (h1 : sm_st2 ls i v = some ls') (h2 : lv_has arr' nL ((i, sm_cv ad v) :: (sm_lv ad ls).filter (fun q => !(q.1 == i) && (!(q.1 == i + 1) && !(q.1 + 1 == i && q.2.category == 2))))) : sm_Lc ad ls' nL arr' := by
  unfold sm_st2 at h1
  split at h1
  · cases h1
    refine ⟨h2.1, h2.2.1, by rw [List.length_set, List.length_set, sm_clr_len]; exact h.2.2.1, fun j w hj => ?_⟩
    by_cases h9 : i + 1 = j
    · subst h9
      rw [List.getElem?_set] at hj
      simp at hj
    rw [List.getElem?_set, if_neg h9] at hj
    by_cases he : i = j
    · subst he
      rw [List.getElem?_set_self (by rw [sm_clr_len]; omega)] at hj
      cases hj
      exact h2.2.2 (i, sm_cv ad v) List.mem_cons_self
    · rw [List.getElem?_set, if_neg he] at hj
      obtain ⟨g1, g2⟩ := sm_clr_get hj
      refine h2.2.2 (j, sm_cv ad w) (List.mem_cons_of_mem _ (List.mem_filter.mpr ⟨sm_lv_of g1, ?_⟩))
      simp only [sm_cv_cat, Bool.and_eq_true, Bool.not_eq_true', beq_eq_false_iff_ne, Bool.and_eq_false_iff, beq_eq_false_iff_ne]
      refine ⟨fun z => he z.symm, fun z => h9 z.symm, ?_⟩
      by_cases h3 : j + 1 = i
      · right
        exact fun z => g2 ⟨h3, z⟩
      · left
        exact h3
  · cases h1
theorem sm_ld_at {i : Nat} (h : sm_Lc ad ls nL arr) (h1 : sm_ld ls i = some v) : arr[i]? = some (.val (sm_cv ad v)) := by
  unfold sm_ld at h1
  split at h1
  · rename_i w hw
    cases h1
    exact h.2.2.2 i v hw
  · cases h1
theorem sm_st1_lt {i : Nat} {ls' : sm_L} (h : sm_Lc ad ls nL arr) (h1 : sm_st1 ls i v = some ls') : i < nL := by
  unfold sm_st1 at h1
  split at h1
  · rw [← h.2.2.1]; assumption
  · cases h1
theorem sm_st2_lt {i : Nat} {ls' : sm_L} (h : sm_Lc ad ls nL arr) (h1 : sm_st2 ls i v = some ls') : i + 1 < nL := by
  unfold sm_st2 at h1
  split at h1
  · rw [← h.2.2.1]; assumption
  · cases h1
theorem sm_Lc_ext (h : sm_Lc ad ls nL arr) (hr : sm_rl n ls = true) (ha : ∀ k, k < n → ad' k = ad k) : sm_Lc ad' ls nL arr := ⟨h.1, h.2.1, h.2.2.1, fun i w hw => by
  rw [sm_cv_ext (v := w) (List.all_eq_true.mp hr _ (List.mem_of_getElem? hw)) ha]
  exact h.2.2.2 i w hw⟩
theorem sm_w_map (ad : Nat → Nat) (r : List Value) : ((r.map (sm_cv ad)).map fun v => v.category).sum = sm_w r := by
  unfold sm_w
  rw [List.map_map]
  congr 1
  exact List.map_congr_left (fun v _ => sm_cv_cat ad v)
theorem sm_getD_set {α : Type} {l : List α} {i : Nat} {x d : α} (h : i < l.length) : (fun j => (l.set i x).getD j d) = fun j => if j = i then x else l.getD j d := by
  funext j
  simp only [List.getD_eq_getElem?_getD, List.getElem?_set]
  by_cases hj : i = j
  · subst hj
    simp [h]
  · rw [if_neg hj, if_neg (fun z => hj z.symm)]
theorem sm_getD_rep (m : Nat) {α : Type} (d : α) : (fun j => (List.replicate m d).getD j d) = fun _ => d := by
  funext j
  simp only [List.getD_eq_getElem?_getD, List.getElem?_replicate]
  split <;> rfl
theorem sm_cpy_len {α : Type} {f g : List α} {sp dp n : Nat} (h1 : sp + n ≤ f.length) (h2 : dp + n ≤ g.length) : (sm_cpy f g sp dp n).length = g.length := by
  simp only [sm_cpy, List.length_append, List.length_take, List.length_drop]
  omega
theorem sm_cpy_get {α : Type} {f g : List α} {sp dp n : Nat} {d : α} (h1 : sp + n ≤ f.length) (h2 : dp + n ≤ g.length) : (fun j => (sm_cpy f g sp dp n).getD j d) = va_cpy (fun j => f.getD j d) (fun j => g.getD j d) sp dp n := by
  funext j
  simp only [va_cpy, sm_cpy, List.getD_eq_getElem?_getD]
  by_cases c1 : j < dp
  · rw [List.getElem?_append_left (by simp; omega), List.getElem?_take_of_lt c1, if_neg (by omega)]
  · rw [List.getElem?_append_right (by simp; omega)]
    have e1 : (g.take dp).length = dp := by simp; omega
    rw [e1]
    by_cases c2 : j < dp + n
    · rw [List.getElem?_append_left (by simp; omega), List.getElem?_take_of_lt (by omega), List.getElem?_drop, if_pos (by omega)]
    · have e2 : ((f.drop sp).take n).length = n := by simp; omega
      rw [List.getElem?_append_right (by omega), e2, List.getElem?_drop, if_neg (by omega)]
      congr 2
      omega
end REL
/-- a method's locals at its start -/
theorem sm_loc_len {as : List Value} {n : Nat} (h : (lg_sl as).length ≤ n) : (sm_loc as n).length = n := by
  have e : ∀ as : List Value, (as.flatMap (fun v => if v.category = 2 then [some v, none] else [some v])).length = (lg_sl as).length := by
    intro as
    induction as with
    | nil => rfl
    | cons v t ih =>
      unfold lg_sl at ih ⊢
      simp only [List.flatMap_cons, List.length_append, ih]
      split <;> rfl
  unfold sm_loc
  rw [List.length_append, List.length_replicate, e]
  omega
theorem sm_loc_get (as : List Value) : ∀ (k i : Nat) (v : Value), (as.flatMap (fun v => if v.category = 2 then [some v, none] else [some v]))[i]? = some (some v) → (k + i, v) ∈ lv_args k as := by
  induction as with
  | nil => intro k i v h; simp at h
  | cons w t ih =>
    intro k i v h
    rw [List.flatMap_cons] at h
    unfold lv_args
    by_cases hc : w.category = 2
    · rw [if_pos hc] at h ⊢
      match i, h with
      | 0, h => simp at h; subst h; exact List.mem_cons_self
      | 1, h => simp at h
      | i + 2, h =>
        have h : (t.flatMap (fun v => if v.category = 2 then [some v, none] else [some v]))[i]? = some (some v) := by simpa using h
        have := ih (k + 2) i v h
        rw [show k + (i + 2) = k + 2 + i by omega]
        exact List.mem_cons_of_mem _ this
    · rw [if_neg hc] at h ⊢
      match i, h with
      | 0, h => simp at h; subst h; exact List.mem_cons_self
      | i + 1, h =>
        have h : (t.flatMap (fun v => if v.category = 2 then [some v, none] else [some v]))[i]? = some (some v) := by simpa using h
        have := ih (k + 1) i v h
        rw [show k + (i + 1) = k + 1 + i by omega]
        exact List.mem_cons_of_mem _ this
theorem sm_lg_cv (ad : Nat → Nat) (as : List Value) : (lg_sl (as.map (sm_cv ad))).length = (lg_sl as).length := by
  induction as with
  | nil => rfl
  | cons v t ih =>
    unfold lg_sl at ih ⊢
    simp only [List.map_cons, List.flatMap_cons, List.length_append, ih, sm_cv_cat]
    split <;> rfl
theorem sm_args_cv (ad : Nat → Nat) (as : List Value) : ∀ k i v, (i, v) ∈ lv_args k as → (i, sm_cv ad v) ∈ lv_args k (as.map (sm_cv ad)) := by
  induction as with
  | nil => intro k i v h; exact absurd h List.not_mem_nil
  | cons w t ih =>
    intro k i v h
    unfold lv_args at h
    rw [List.map_cons]
    unfold lv_args
    rw [sm_cv_cat]
    rcases List.mem_cons.mp h with h | h
    · cases h; exact List.mem_cons_self
    · exact List.mem_cons_of_mem _ (ih _ _ _ h)
theorem sm_Lc_in {ad : Nat → Nat} {as : List Value} {n : Nat} (h : (lg_sl as).length ≤ n) : sm_Lc ad (sm_loc as n) n ((lg_sl (as.map (sm_cv ad)) ++ List.replicate (n - (lg_sl (as.map (sm_cv ad))).length) Slot.unset).toArray) := by
  have hv := lv_entry (as.map (sm_cv ad)) (n := n) (by rw [sm_lg_cv]; exact h)
  refine ⟨hv.1, hv.2.1, sm_loc_len h, fun i v hi => ?_⟩
  have hi2 : (as.flatMap (fun v => if v.category = 2 then [some v, none] else [some v]))[i]? = some (some v) := by
    unfold sm_loc at hi
    by_cases hlt : i < (as.flatMap (fun v => if v.category = 2 then [some v, none] else [some v])).length
    · rw [List.getElem?_append_left hlt] at hi
      exact hi
    · rw [List.getElem?_append_right (by omega), List.getElem?_replicate] at hi
      split at hi <;> cases hi
  have h1 := sm_args_cv ad as 0 i v (by simpa using sm_loc_get as 0 i v hi2)
  exact hv.2.2 (i, sm_cv ad v) h1
