/-! one call of both, by the analyst: every path ends with one number, the same on both sides -/
def pw_sng (T : an_T) (o : Option an_S) : Option Int := match o with
  | some a => match an_iv T a with
    | some p => cond (ieq p.1 p.2) (some p.1) none
    | none => none
  | none => none
def pw_is (c : Option an_C) (n : Nat) : Bool := match c with
  | some (.inr o) => Nat.beq o.1 n
  | _ => false
def pw_two (K : an_KT) (μ : Nat) (as : List an_S) (r : Int) (Z : an_Z) : Bool := match K μ (.inr (.inl 67) :: as) Z with
  | some Fs => Fs.all (fun F => match pw_sng F.2.1 F.1 with
    | some s => ieq r s
    | none => false)
  | none => false
def pw_chk (K : an_KT) (q : lw_D) (as : List an_S) (Z : an_Z) : Bool := pw_is Z.2.1[0]? 7 && (match K q.2.2.2.1 (.inr (.inl 0) :: as) Z with
  | some Es => Es.all (fun E => match pw_sng E.2.1 E.1 with
    | some r => pw_is E.2.2.1[67]? 8 && pw_two K q.2.2.2.2.2.1 as r E.2
    | none => false)
  | none => false)
section PW
variable {ρ : List Int} {h0 hp : sm_H} {Z : an_Z}
theorem pw_is_ok {k n : Nat} (hZ : an_rZ ρ Z h0 hp) (h : pw_is Z.2.1[k]? n = true) : ∃ fs, hp[k]? = some (.inr (n, fs)) := by
  unfold pw_is at h
  split at h
  · rename_i o ho
    rw [Nat.beq_eq] at h
    obtain ⟨d, hd, hc⟩ := an_rH_get hZ.2.1 ho
    match d, hc with
    | .inr (p1, p2), hc =>
      have g1 : o.1 = p1 := hc.1
      rw [h] at g1
      subst g1
      exact ⟨p2, hd⟩
    | .inl (_, .inl _), hc => exact hc.elim
    | .inl (_, .inr _), hc => exact hc.elim
  · cases h
theorem pw_sng_ok {o : Option an_S} {v : Option Value} {r : Int} (hT : an_rT Z.1 ρ) (hv : an_rr ρ o v) (h : pw_sng Z.1 o = some r) : ∃ x : Int32, v = some (.int x) ∧ x.toInt = r := by
  unfold pw_sng at h
  split at h
  · rename_i a
    split at h
    · rename_i p hp
      cases hi : ieq p.1 p.2 with
      | false => rw [hi] at h; cases h
      | true =>
        rw [hi] at h
        cases h
        rw [ieq_iff] at hi
        match v, hv with
        | some w, hv =>
          obtain ⟨x, rfl, x1, x2⟩ := an_iv_ok hT hv.1 hp
          exact ⟨x, rfl, by omega⟩
        | none, hv => exact hv.elim
    · cases h
  · cases h
theorem pw_chk_ok {d : Nat} {K : an_KT} {q : lw_D} {as : List an_S} {vs : List Int32} (hK : an_KO d K) (hF : an_rF ρ as (vs.map Value.int)) (hZ : an_rZ ρ Z hp hp) (h : pw_chk K q as Z = true) : lw_good 67 d q vs hp (fun _ => True) := by
  unfold pw_chk at h
  rw [Bool.and_eq_true] at h
  obtain ⟨h1, h2⟩ := h
  refine ⟨pw_is_ok hZ h1, ?_⟩
  split at h2
  · rename_i Es hEs
    obtain ⟨v, hp1, m1, E, hE, e, r1, z1⟩ := hK _ _ _ _ ρ hp hp (.ref 0 :: vs.map Value.int) hEs ⟨rfl, hF⟩ hZ
    have h3 := List.all_eq_true.mp h2 E hE
    split at h3
    · rename_i r hr
      obtain ⟨x, rfl, hx⟩ := pw_sng_ok z1.1 r1 hr
      rw [Bool.and_eq_true] at h3
      obtain ⟨h4, h5⟩ := h3
      unfold pw_two at h5
      split at h5
      · rename_i Fs hFs
        obtain ⟨v2, hp2, m2, F, hFm, e2, r2, z2⟩ := hK _ _ _ _ (ρ ++ e) hp hp1 (.ref 67 :: vs.map Value.int) hFs ⟨rfl, an_rF_ext e hF⟩ z1
        have h6 := List.all_eq_true.mp h5 F hFm
        split at h6
        · rename_i s hs
          rw [ieq_iff] at h6
          obtain ⟨y, rfl, hy⟩ := pw_sng_ok z2.1 r2 hs
          exact ⟨x, y, hp1, hp2, m1, pw_is_ok z1 h4, m2, fun _ => Int32.toInt_inj.mp (by omega), trivial⟩
        · cases h6
      · cases h5
    · cases h3
  · cases h2
end PW
/-! the heap at the start -/
def pw_okS (a : an_S) (v : Value) : Bool := match a, v with
  | .inl (none, c), .int x => ieq x.toInt c
  | .inr (.inl k), .ref j => Nat.beq k j
  | _, _ => false
theorem pw_okS_ok {ρ : List Int} {a : an_S} {v : Value} (h : pw_okS a v = true) : an_rv ρ a v := by
  unfold pw_okS at h
  split at h
  · exact ⟨_, rfl, ieq_iff.mp h⟩
  · rename_i k j
    have e : k = j := Nat.beq_eq.mp h
    subst e
    exact rfl
  · cases h
def pw_okF : List an_S → List Value → Bool
  | [], [] => true
  | a :: t, v :: u => pw_okS a v && pw_okF t u
  | _, _ => false
theorem pw_okF_ok {ρ : List Int} : ∀ {t : List an_S} {u : List Value}, pw_okF t u = true → an_rF ρ t u
  | [], [], _ => trivial
  | a :: t, v :: u, h => by
    unfold pw_okF at h
    rw [Bool.and_eq_true] at h
    exact ⟨pw_okS_ok h.1, pw_okF_ok h.2⟩
  | [], _ :: _, h => by cases h
  | _ :: _, [], h => by cases h
def pw_okB : List (Nat × Int × Int) → List Int32 → Bool
  | [], _ => true
  | g :: t, l => (l.take g.1).all (fun x => ile g.2.1 x.toInt && ile x.toInt g.2.2) && pw_okB t (l.drop g.1)
theorem pw_okB_ok : ∀ (sg : List (Nat × Int × Int)) (l : List Int32), pw_okB sg l = true → ∀ (i : Nat) (x : Int32) (b : Int × Int), l[i]? = some x → an_at sg i = some b → b.1 ≤ x.toInt ∧ x.toInt ≤ b.2
  | [], _, _, _, _, _, _, h => by cases h
  | g :: t, l, h, i, x, b, hx, hb => by
    unfold pw_okB at h
    rw [Bool.and_eq_true] at h
    unfold an_at at hb
    cases hi : Nat.blt i g.1 with
    | true =>
      rw [hi] at hb
      cases hb
      have hi := Nat.blt_eq.mp hi
      have hm : x ∈ l.take g.1 := List.mem_of_getElem? (i := i) (by rw [List.getElem?_take_of_lt hi]; exact hx)
      have := List.all_eq_true.mp h.1 x hm
      rw [Bool.and_eq_true, ile_iff, ile_iff] at this
      exact this
    | false =>
      rw [hi] at hb
      have hi := an_blt_f hi
      exact pw_okB_ok t (l.drop g.1) h.2 (i - g.1) x b (by rw [List.getElem?_drop, show g.1 + (i - g.1) = i by omega]; exact hx) hb
def pw_okC (c : an_C) (d : sm_C) : Bool := match c, d with
  | .inl a, .inl (k, .inl l) => Nat.beq a.1 k && !Nat.beq k 1 && Nat.beq l.length (an_len a.2) && pw_okB a.2 l
  | .inl a, .inl (k, .inr l) => Nat.beq a.1 k && Nat.beq k 1 && Nat.beq l.length (an_len a.2)
  | .inr o, .inr p => Nat.beq o.1 p.1 && pw_okF o.2 p.2
  | _, _ => false
theorem pw_okC_ok {ρ : List Int} {c : an_C} {d : sm_C} (h : pw_okC c d = true) : an_rC ρ c d := by
  unfold pw_okC at h
  split at h
  · simp only [Bool.and_eq_true, Nat.beq_eq, Bool.not_eq_true'] at h
    obtain ⟨⟨⟨h1, h2⟩, h3⟩, h4⟩ := h
    exact ⟨h1, (fun z => by rw [z] at h2; cases h2), h3, pw_okB_ok _ _ h4⟩
  · simp only [Bool.and_eq_true, Nat.beq_eq] at h
    exact ⟨h.1.1, h.1.2, h.2⟩
  · simp only [Bool.and_eq_true, Nat.beq_eq] at h
    exact ⟨h.1, pw_okF_ok h.2⟩
  · cases h
def pw_okH : an_H → sm_H → Bool
  | [], [] => true
  | c :: t, d :: u => pw_okC c d && pw_okH t u
  | _, _ => false
theorem pw_okH_ok {ρ : List Int} : ∀ {t : an_H} {u : sm_H}, pw_okH t u = true → an_rH ρ t u
  | [], [], _ => trivial
  | a :: t, v :: u, h => by
    unfold pw_okH at h
    rw [Bool.and_eq_true] at h
    exact ⟨pw_okC_ok h.1, pw_okH_ok h.2⟩
  | [], _ :: _, h => by cases h
  | _ :: _, [], h => by cases h
/-! the numbers of a call, by their bounds -/
def pw_in : List (Int × Int) → List Int32 → Prop
  | [], [] => True
  | b :: t, v :: u => (b.1 ≤ v.toInt ∧ v.toInt ≤ b.2) ∧ pw_in t u
  | _, _ => False
def pw_as : Nat → List (Int × Int) → List an_S
  | _, [] => []
  | k, b :: t => cond (ieq b.1 b.2) (an_c b.1) (.inl (some k, 0)) :: pw_as (k + 1) t
theorem pw_as_ok {ρ : List Int} : ∀ (c : List (Int × Int)) (vs : List Int32) (k : Nat), (∀ (i : Nat) (v : Int32), vs[i]? = some v → ρ[k + i]? = some v.toInt) → pw_in c vs → an_rF ρ (pw_as k c) (vs.map Value.int)
  | [], [], _, _, _ => trivial
  | b :: t, v :: u, k, hr, h => by
    refine ⟨?_, pw_as_ok t u (k + 1) (fun i w hw => ?_) h.2⟩
    · cases hi : ieq b.1 b.2 with
      | true =>
        rw [ieq_iff] at hi
        exact ⟨v, rfl, by have := h.1; omega⟩
      | false => exact ⟨v, v.toInt, rfl, by have := hr 0 v rfl; simpa using this, by omega⟩
    · have := hr (i + 1) w (by simpa using hw)
      rw [show k + 1 + i = k + (i + 1) by omega]; exact this
  | [], _ :: _, _, _, h => h.elim
  | _ :: _, [], _, _, h => h.elim
theorem pw_in_T : ∀ (c : List (Int × Int)) (vs : List Int32), pw_in c vs → an_rT c (vs.map Int32.toInt)
  | [], [], _ => ⟨rfl, fun s b r h => by cases h⟩
  | b :: t, v :: u, h => by
    have ih := pw_in_T t u h.2
    refine ⟨by simp [ih.1], fun s b' r hb hr => ?_⟩
    cases s with
    | zero =>
      cases hb
      cases hr
      exact h.1
    | succ s => exact ih.2 s b' r hb hr
  | [], _ :: _, h => h.elim
  | _ :: _, [], h => h.elim
theorem pw_cell {d : Nat} {K : an_KT} {q : lw_D} {H : an_H} {hp : sm_H} (hK : an_KO d K) (hH : pw_okH H hp = true) {c : List (Int × Int)} (h : pw_chk K q (pw_as 0 c) (c, H, []) = true) {vs : List Int32} (hin : pw_in c vs) : lw_good 67 d q vs hp (fun _ => True) := by
  refine pw_chk_ok (ρ := vs.map Int32.toInt) hK (pw_as_ok c vs 0 (fun i v hv => ?_) hin) ⟨pw_in_T c vs hin, pw_okH_ok hH, fun k c h _ => h⟩ h
  rw [Nat.zero_add, List.getElem?_map, hv]
  rfl
