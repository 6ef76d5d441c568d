/-! left: the next one to the left, by seats and by distances -/
section LEFT
variable {M t M' : Int32} {ga se bi now : List Int32}
theorem rem12 : ∀ n, n < 48 → nI n - nI n / 12 * 12 = nI (n % 12) := by decide +kernel
theorem dist12 : ∀ a, a < 12 → ∀ b, b < 12 → (nI a - nI b + 12) - (nI a - nI b + 12) / 12 * 12 = nI ((a + 12 - b) % 12) := by decide +kernel
/-- the place of a guest's seat -/
def sN (se : List Int32) (c : Nat) : Nat := (se.getD c 0).toInt.toNat
def dN (se : List Int32) (g c : Nat) : Nat := (sN se c + 12 - sN se g) % 12
/-- v is the next told one to the left of g, or g -/
def nxt (t : Int32) (se : List Int32) (g : Nat) (v : Int32) : Prop := (v = nI g ∧ ∀ c, c < 12 → b32 t c = true → c = g) ∨ ∃ c, c < 12 ∧ v = nI c ∧ b32 t c = true ∧ c ≠ g ∧ ∀ c', c' < 12 → b32 t c' = true → c' ≠ g → dN se g c ≤ dN se g c'
theorem seat_n {g : Nat} (hs : ∀ g, g < 12 → 0 ≤ (se.getD g 0).toInt ∧ (se.getD g 0).toInt ≤ 11) (hg : g < 12) : se.getD g 0 = nI (sN se g) ∧ sN se g < 12 := by
  have := hs g hg
  unfold sN
  exact ⟨nJ_of (by omega), by omega⟩
theorem seat_ne {a b : Nat} (hs : ∀ g, g < 12 → 0 ≤ (se.getD g 0).toInt ∧ (se.getD g 0).toInt ≤ 11) (hS : SEATS t ga se) (ha : a < 12) (hb : b < 12) (ta : b32 t a = true) (tb : b32 t b = true) (h : sN se a = sN se b) : a = b := by
  obtain ⟨a1, a2⟩ := seat_n hs ha
  obtain ⟨b1, b2⟩ := seat_n hs hb
  have p := (hS (sN se a) a2 a ha).mpr ⟨ta, a1⟩
  have q := (hS (sN se a) a2 b hb).mpr ⟨tb, by rw [h]; exact b1⟩
  rw [p] at q
  exact nJ_inj (by omega) (by omega) q
theorem nxt_1 {g : Nat} {v w : Int32} (hs : ∀ g, g < 12 → 0 ≤ (se.getD g 0).toInt ∧ (se.getD g 0).toInt ≤ 11) (hS : SEATS t ga se) (hg : g < 12) (h1 : nxt t se g v) (h2 : nxt t se g w) : v = w := by
  rcases h1 with ⟨rfl, h1⟩ | ⟨c, c1, rfl, c2, c3, c4⟩ <;> rcases h2 with ⟨rfl, h2⟩ | ⟨e, e1, rfl, e2, e3, e4⟩
  · rfl
  · exact absurd (h1 e e1 e2) e3
  · exact absurd (h2 c c1 c2) c3
  · have p := c4 e e1 e2 e3
    have q := e4 c c1 c2 c3
    obtain ⟨-, a2⟩ := seat_n hs c1
    obtain ⟨-, b2⟩ := seat_n hs e1
    obtain ⟨-, g2⟩ := seat_n hs hg
    have d : dN se g c = dN se g e := by omega
    unfold dN at d
    rw [seat_ne hs hS c1 e1 c2 e2 (by omega)]
theorem kt_nxt {g : Nat} (hs : ∀ g, g < 12 → 0 ≤ (se.getD g 0).toInt ∧ (se.getD g 0).toInt ≤ 11) (hb : ∀ s, s < 12 → -1 ≤ (ga.getD s 0).toInt ∧ (ga.getD s 0).toInt ≤ 11) (hS : SEATS t ga se) (hg : g < 12) (tg : b32 t g = true) : nxt t se g (kt_nextLeft ga se (nI g)) := by
  obtain ⟨g1, g2⟩ := seat_n hs hg
  have loop : ∀ (m i : Nat), i + m = 12 → 1 ≤ i → (∀ s, 1 ≤ s → s < i → ga.getD ((sN se g + s) % 12) 0 = -1) → nxt t se g (kt_nextLeft_2 ga se (nI g) m (nI i)) := by
    intro m
    induction m with
    | zero =>
      intro i hi h1 h
      refine Or.inl ⟨rfl, fun c hc tc => ?_⟩
      by_cases e : c = g
      · exact e
      · obtain ⟨c1, c2⟩ := seat_n hs hc
        have ne : sN se c ≠ sN se g := fun z => e (seat_ne hs hS hc hg tc tg z)
        have d : 1 ≤ dN se g c ∧ dN se g c < 12 ∧ (sN se g + dN se g c) % 12 = sN se c := by unfold dN; omega
        have p := h (dN se g c) d.1 (by omega)
        rw [d.2.2] at p
        have q := (hS (sN se c) c2 c hc).mpr ⟨tc, c1⟩
        rw [p] at q
        exact absurd q.symm (nI_m1 (by omega))
    | succ m ih =>
      intro i hi h1 h
      show nxt t se g (if ga.getD (((se.getD (nI g).toInt.toNat 0) + nI i) - ((se.getD (nI g).toInt.toNat 0) + nI i) / 12 * 12).toInt.toNat 0 = -1 then kt_nextLeft_2 ga se (nI g) m (nI i + 1) else ga.getD (((se.getD (nI g).toInt.toNat 0) + nI i) - ((se.getD (nI g).toInt.toNat 0) + nI i) / 12 * 12).toInt.toNat 0)
      rw [nJ_ix (n := g) (by omega), g1, nI_plus, rem12 _ (by omega), nJ_ix (n := (sN se g + i) % 12) (by omega), nJ_1 (by omega)]
      by_cases e : ga.getD ((sN se g + i) % 12) 0 = -1
      · rw [if_pos e]
        refine ih (i + 1) (by omega) (by omega) (fun s h2 h3 => ?_)
        by_cases e2 : s = i
        · rw [e2]; exact e
        · exact h s h2 (by omega)
      · rw [if_neg e]
        have hv := hb ((sN se g + i) % 12) (by omega)
        have nv : (ga.getD ((sN se g + i) % 12) 0).toInt ≠ -1 := fun z => e (Int32.toInt_inj.mp z)
        have ev : ga.getD ((sN se g + i) % 12) 0 = nI (ga.getD ((sN se g + i) % 12) 0).toInt.toNat := nJ_of (by omega)
        generalize hc : (ga.getD ((sN se g + i) % 12) 0).toInt.toNat = c at ev
        have c12 : c < 12 := by omega
        obtain ⟨tc, sc⟩ := (hS ((sN se g + i) % 12) (by omega) c c12).mp ev
        obtain ⟨c1, c2⟩ := seat_n hs c12
        have sc' : sN se c = (sN se g + i) % 12 := nJ_inj (by omega) (by omega) (c1.symm.trans sc)
        refine Or.inr ⟨c, c12, ev, tc, fun z => ?_, fun c' h2 t2 n2 => ?_⟩
        · rw [z] at sc'; omega
        · obtain ⟨d1, d2⟩ := seat_n hs h2
          have ne : sN se c' ≠ sN se g := fun z => n2 (seat_ne hs hS h2 hg t2 tg z)
          have dc : dN se g c = i := by unfold dN; omega
          rw [dc]
          have d : 1 ≤ dN se g c' ∧ dN se g c' < 12 ∧ (sN se g + dN se g c') % 12 = sN se c' := by unfold dN; omega
          by_cases e3 : dN se g c' < i
          · have p := h (dN se g c') d.1 e3
            rw [d.2.2] at p
            have q := (hS (sN se c') d2 c' h2).mpr ⟨t2, d1⟩
            rw [p] at q
            exact absurd q.symm (nI_m1 (by omega))
          · omega
  exact loop 11 1 rfl (by omega) (fun s h1 h2 => by omega)
theorem two_eq (h2 : t = now.getD 144 0) {a b : Nat} (ha : a < 12) (hb : b < 12) (ta : b32 t a = true) : km_areTwo now (nI a) (nI b) = 0 ↔ ¬ (b32 t b = true ∧ b ≠ a) := by
  unfold km_areTwo
  have ka : km_isGuest now (nI a) = 1 := by
    rcases km_told now (nI a) with ⟨-, q⟩ | ⟨q, -⟩
    · rw [← h2, tq_n ha] at q; exact absurd ta q
    · exact q
  rw [ka, if_neg (by decide)]
  rcases km_told now (nI b) with ⟨p, q⟩ | ⟨p, q⟩ <;> rw [p] <;> rw [← h2, tq_n hb] at q
  · rw [if_pos rfl]
    exact ⟨fun _ z => q z.1, fun _ => rfl⟩
  · rw [if_neg (by decide)]
    by_cases e : nI a = nI b
    · rw [if_pos e]
      exact ⟨fun _ z => z.2 (nJ_inj (by omega) (by omega) e).symm, fun _ => rfl⟩
    · rw [if_neg e]
      exact ⟨fun z => absurd z (by decide), fun z => absurd ⟨q, fun n => e (by rw [n])⟩ z⟩
theorem left_eq (h3 : ∀ g, g < 12 → se.getD g 0 = now.getD g 0) (hs : ∀ g, g < 12 → 0 ≤ (se.getD g 0).toInt ∧ (se.getD g 0).toInt ≤ 11) {a b : Nat} (ha : a < 12) (hb : b < 12) : km_leftOf now (nI a) (nI b) = nI (dN se a b) := by
  unfold km_leftOf
  obtain ⟨a1, a2⟩ := seat_n hs ha
  obtain ⟨b1, b2⟩ := seat_n hs hb
  rw [nJ_ad (k := 0) rfl (by omega), nJ_ad (k := 0) rfl (by omega), Nat.zero_add, Nat.zero_add, ← h3 a ha, ← h3 b hb, a1, b1]
  exact dist12 _ b2 _ a2
theorem km_nxt {g : Nat} (h2 : t = now.getD 144 0) (h3 : ∀ g, g < 12 → se.getD g 0 = now.getD g 0) (hs : ∀ g, g < 12 → 0 ≤ (se.getD g 0).toInt ∧ (se.getD g 0).toInt ≤ 11) (hS : SEATS t ga se) (hg : g < 12) (tg : b32 t g = true) : nxt t se g (km_nextLeft now (nI g)) := by
  have d12 : ∀ c, dN se g c < 12 := fun c => by unfold dN; omega
  have loop : ∀ (m i : Nat) (v : Int32) (n : Nat), i + m = 12 → n ≤ 12 → ((v = nI g ∧ n = 12 ∧ ∀ c, c < i → b32 t c = true → c = g) ∨ ∃ c, c < i ∧ v = nI c ∧ b32 t c = true ∧ c ≠ g ∧ n = dN se g c ∧ ∀ c', c' < i → b32 t c' = true → c' ≠ g → dN se g c ≤ dN se g c') → nxt t se g (km_nextLeft_8 now (nI g) m v (nI n) (nI i)) := by
    intro m
    induction m with
    | zero =>
      intro i v n hi hn h
      rcases h with ⟨rfl, -, h⟩ | ⟨c, c1, rfl, c2, c3, -, c4⟩
      · exact Or.inl ⟨rfl, fun c hc tc => h c (by omega) tc⟩
      · exact Or.inr ⟨c, by omega, rfl, c2, c3, fun c' e1 e2 e3 => c4 c' (by omega) e2 e3⟩
    | succ m ih =>
      intro i v n hi hn h
      show nxt t se g (if km_areTwo now (nI g) (nI i) = 0 then km_nextLeft_8 now (nI g) m v (nI n) (nI i + 1) else (if (km_leftOf now (nI g) (nI i)).toInt < (nI n).toInt then km_nextLeft_8 now (nI g) m (nI i) (km_leftOf now (nI g) (nI i)) (nI i + 1) else km_nextLeft_8 now (nI g) m v (nI n) (nI i + 1)))
      have en := nI_toInt (n := n) (by omega)
      have ed := nI_toInt (n := dN se g i) (by have := d12 i; omega)
      rw [nJ_1 (by omega), left_eq h3 hs hg (by omega), en, ed]
      by_cases e : km_areTwo now (nI g) (nI i) = 0
      · rw [if_pos e]
        rw [two_eq h2 hg (by omega) tg] at e
        refine ih (i + 1) v n (by omega) hn ?_
        rcases h with ⟨rfl, h1, h⟩ | ⟨c, c1, rfl, c2, c3, c5, c4⟩
        · refine Or.inl ⟨rfl, h1, fun c hc tc => ?_⟩
          by_cases e2 : c = i
          · subst e2
            exact Decidable.byContradiction (fun n => e ⟨tc, n⟩)
          · exact h c (by omega) tc
        · refine Or.inr ⟨c, by omega, rfl, c2, c3, c5, fun c' e1 e2 e3 => ?_⟩
          by_cases e4 : c' = i
          · subst e4
            exact absurd ⟨e2, e3⟩ e
          · exact c4 c' (by omega) e2 e3
      · rw [if_neg e]
        rw [two_eq h2 hg (by omega) tg, Decidable.not_not] at e
        by_cases e1 : (dN se g i : Int) < (n : Int)
        · rw [if_pos e1]
          refine ih (i + 1) (nI i) (dN se g i) (by omega) (by have := d12 i; omega) (Or.inr ⟨i, by omega, rfl, e.1, e.2, rfl, fun c' f1 f2 f3 => ?_⟩)
          by_cases e4 : c' = i
          · rw [e4]; omega
          · rcases h with ⟨-, -, h⟩ | ⟨c, c1, -, c2, c3, c5, c4⟩
            · exact absurd (h c' (by omega) f2) f3
            · have := c4 c' (by omega) f2 f3
              omega
        · rw [if_neg e1]
          refine ih (i + 1) v n (by omega) hn ?_
          rcases h with ⟨rfl, h1, h⟩ | ⟨c, c1, rfl, c2, c3, c5, c4⟩
          · have := d12 i; omega
          · refine Or.inr ⟨c, by omega, rfl, c2, c3, c5, fun c' f1 f2 f3 => ?_⟩
            by_cases e4 : c' = i
            · rw [e4]; omega
            · exact c4 c' (by omega) f2 f3
  exact loop 12 0 (nI g) 12 rfl (by omega) (Or.inl ⟨rfl, rfl, fun c hc => by omega⟩)
theorem left_pure (hR : R1v M t ga se bi M' now) (hb : ∀ s, s < 12 → -1 ≤ (ga.getD s 0).toInt ∧ (ga.getD s 0).toInt ≤ 11) (hs : ∀ g, g < 12 → 0 ≤ (se.getD g 0).toInt ∧ (se.getD g 0).toInt ≤ 11) {x y : Int32} : kc_left t ga se x y = km_left now x y := by
  obtain ⟨-, r2, r3, -, r5⟩ := hR
  unfold kc_left km_left
  rw [told_same r2 x, within_in]
  by_cases c1 : km_isGuest now x = 0
  · rw [if_pos c1, if_pos c1]
  · rw [if_neg c1, if_neg c1]
    by_cases c2 : km_in y 1 12 = 0
    · rw [if_pos c2, if_pos c2]
    · rw [if_neg c2, if_neg c2]
      obtain ⟨g, hg, rfl, tg⟩ : ∃ g, g < 12 ∧ x = nI g ∧ b32 t g = true := by
        rcases km_told now x with ⟨p, -⟩ | ⟨-, q⟩
        · exact absurd p c1
        · rw [← r2] at q
          exact ⟨x.toInt.toNat, by have := q.1; omega, nJ_of (by have := q.1; omega), q.2⟩
      have step : ∀ g, g < 12 → b32 t g = true → kt_nextLeft ga se (nI g) = km_nextLeft now (nI g) ∧ ∃ c, c < 12 ∧ km_nextLeft now (nI g) = nI c ∧ b32 t c = true := fun g hg tg => by
        have p := kt_nxt hs hb r5 hg tg
        have q := km_nxt r2 r3 hs r5 hg tg
        refine ⟨nxt_1 hs r5 hg p q, ?_⟩
        rcases q with ⟨q, -⟩ | ⟨c, c1, q, c2, -⟩
        · exact ⟨g, hg, q, tg⟩
        · exact ⟨c, c1, q, c2⟩
      have loop : ∀ (m : Nat) (g : Nat) (i : Int32), g < 12 → b32 t g = true → kc_left_28 ga se m (nI g) i = km_left_25 now m (nI g) i := by
        intro m
        induction m with
        | zero => intro g i _ _; rfl
        | succ m ih =>
          intro g i hg tg
          show kc_left_28 ga se m (kt_nextLeft ga se (nI g)) (i + 1) = km_left_25 now m (km_nextLeft now (nI g)) (i + 1)
          obtain ⟨p, c, c1, c2, c3⟩ := step g hg tg
          rw [p, c2]
          exact ih c (i + 1) c1 c3
      exact loop _ g 0 hg tg
end LEFT
section ANL
variable {as : List Int32} {hp hp1 hp2 : sm_H} {r1 r2 : Int32}
theorem an_left (hl : as.length = 2) (hI : ivH IV hp) (hR : R1 hp) (m1 : EM 400 127 (.ref 0 :: as.map Value.int) hp (some (.int r1)) hp1) (hI1 : ivH IV hp1) (m2 : EM 400 239 (.ref 67 :: as.map Value.int) hp1 (some (.int r2)) hp2) : r1 = r2 := by
  obtain ⟨x, y, rfl⟩ := ln2 hl
  obtain ⟨e1, h1⟩ := u_kc_left hI m1
  obtain ⟨e2, -⟩ := u_km_left hI1 m2
  have w : exA hp1 68 = exA hp 68 := by rw [h1]; rfl
  rw [e1, e2, w]
  exact left_pure hR.1 (fun s hs => bd_at (lo := 0) (hi := 0) hI rfl hs) (fun s hs => bd_at (lo := 0) (hi := 0) hI rfl hs)
end ANL
