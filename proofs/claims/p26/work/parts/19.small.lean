/-! small methods -/
theorem c_within1 (d : Nat) (hp : sm_H) (a lo hi : Int32) (h1 : ¬ a < lo) (h2 : ¬ hi < a) : EM (d + 1) 10 [.int a, .int lo, .int hi] hp (some (.int 1)) hp := by
  refine em_in rfl ⟨Nat.le_of_ble_eq_true rfl, Nat.le_of_ble_eq_true rfl⟩ ?_
  repeat (refine ev_step rfl rfl ?_)
  refine ev_if (fun h => absurd (of_decide_eq_true h) h1) (fun h => ?_)
  repeat (refine ev_step rfl rfl ?_)
  refine ev_if (fun h => absurd (of_decide_eq_true h) h2) (fun h => ?_)
  repeat (refine ev_step rfl rfl ?_)
  exact ev_ret rfl rfl
theorem c_within0 (d : Nat) (hp : sm_H) (a lo hi : Int32) (h : a < lo ∨ hi < a) : EM (d + 1) 10 [.int a, .int lo, .int hi] hp (some (.int 0)) hp := by
  refine em_in rfl ⟨Nat.le_of_ble_eq_true rfl, Nat.le_of_ble_eq_true rfl⟩ ?_
  repeat (refine ev_step rfl rfl ?_)
  refine ev_if (fun _ => ?_) (fun h1 => ?_)
  · repeat (refine ev_step rfl rfl ?_)
    exact ev_ret rfl rfl
  · repeat (refine ev_step rfl rfl ?_)
    refine ev_if (fun _ => ?_) (fun h2 => ?_)
    · repeat (refine ev_step rfl rfl ?_)
      exact ev_ret rfl rfl
    · rcases h with h | h
      · exact absurd h (of_decide_eq_false h1)
      · exact absurd h (of_decide_eq_false h2)
theorem m_in1 (d : Nat) (hp : sm_H) (a lo hi : Int32) (h1 : ¬ a < lo) (h2 : ¬ hi < a) : EM (d + 1) 141 [.int a, .int lo, .int hi] hp (some (.int 1)) hp := by
  refine em_in rfl ⟨Nat.le_of_ble_eq_true rfl, Nat.le_of_ble_eq_true rfl⟩ ?_
  repeat (refine ev_step rfl rfl ?_)
  refine ev_if (fun h => absurd (of_decide_eq_true h) h1) (fun h => ?_)
  repeat (refine ev_step rfl rfl ?_)
  refine ev_if (fun h => absurd (of_decide_eq_true h) h2) (fun h => ?_)
  repeat (refine ev_step rfl rfl ?_)
  exact ev_ret rfl rfl
theorem m_in0 (d : Nat) (hp : sm_H) (a lo hi : Int32) (h : a < lo ∨ hi < a) : EM (d + 1) 141 [.int a, .int lo, .int hi] hp (some (.int 0)) hp := by
  refine em_in rfl ⟨Nat.le_of_ble_eq_true rfl, Nat.le_of_ble_eq_true rfl⟩ ?_
  repeat (refine ev_step rfl rfl ?_)
  refine ev_if (fun _ => ?_) (fun h1 => ?_)
  · repeat (refine ev_step rfl rfl ?_)
    exact ev_ret rfl rfl
  · repeat (refine ev_step rfl rfl ?_)
    refine ev_if (fun _ => ?_) (fun h2 => ?_)
    · repeat (refine ev_step rfl rfl ?_)
      exact ev_ret rfl rfl
    · rcases h with h | h
      · exact absurd h (of_decide_eq_false h1)
      · exact absurd h (of_decide_eq_false h2)
theorem sm_sh0 (y : Int32) : ((0 : Int32) >>> y) &&& 1 = 0 := by
  rw [show (0 : Int32) >>> y = 0 from Int32.zero_shiftRight]
  rfl
theorem ev_cV {d pc : Nat} {cd : Nat → Option sm_I} {ls : sm_L} {st : List Value} {hp hp' : sm_H} {v : Option Value} {idx n μ b k : Nat} {fs as r : List Value} {E : sm_M} {w : Option Value} {hp1 : sm_H} (hq : cd pc = some (.invokevirtual idx, n, μ, b)) (hE : sm_mt μ = some E) (hkd : E.2.2.2.2.2.2.1 = 1) (ht : sm_take st (E.2.2.2.2.2.1 + 1) = some (.ref k :: as, r)) (hk : hp[k]? = some (.inr (E.2.2.2.2.1, fs))) (hne : Nat.beq μ 9998 = false) (hm : EM d μ (.ref k :: as) hp w hp1) (kk : EV d cd (pc + 3) ls (w.toList ++ r) hp1 v hp') : EV d cd pc ls st hp v hp' := by
  refine ev_call hq ?_ hm kk
  show (if μ = 9998 then none else sm_cV st μ hp) = _
  rw [if_neg (fun z => by rw [z] at hne; cases hne)]
  unfold sm_cV
  rw [hE]
  dsimp only
  rw [if_pos hkd, ht]
  dsimp only
  rw [hk]
  dsimp only
  rw [if_pos rfl]
theorem c_isTold0 (d k : Nat) (hp : sm_H) (m4 : Int32) (fs : List Value) (g : Int32) (hk : hp[k]? = some (.inr (4, .int m4 :: .int 0 :: fs))) : EM (d + 1) 14 [.ref k, .int g] hp (some (.int 0)) hp := by
  refine em_in rfl ⟨Nat.le_of_ble_eq_true rfl, Nat.le_of_ble_eq_true rfl⟩ ?_
  repeat (refine ev_step rfl rfl ?_)
  refine ev_if (fun _ => ?_) (fun h1 => ?_)
  · repeat (refine ev_step rfl rfl ?_)
    exact ev_ret rfl rfl
  · repeat (refine ev_step rfl rfl ?_)
    refine ev_if (fun _ => ?_) (fun h2 => ?_)
    · repeat (refine ev_step rfl rfl ?_)
      exact ev_ret rfl rfl
    · repeat (refine ev_step rfl rfl ?_)
      refine ev_gf rfl hk rfl ?_
      repeat (refine ev_step rfl rfl ?_)
      refine ev_if (fun _ => ?_) (fun h3 => absurd (sm_sh0 _) (of_decide_eq_false h3))
      repeat (refine ev_step rfl rfl ?_)
      exact ev_ret rfl rfl
theorem m_has0 (d : Nat) (hp : sm_H) (g : Int32) : EM (d + 1) 146 [.int 0, .int g] hp (some (.int 0)) hp := by
  refine em_in rfl ⟨Nat.le_of_ble_eq_true rfl, Nat.le_of_ble_eq_true rfl⟩ ?_
  repeat (refine ev_step rfl rfl ?_)
  have e : ((0 : Int32) >>> (g &&& 31)) &&& Int32.ofInt 1 = 0 := sm_sh0 _
  refine ev_if (fun _ => ?_) (fun h3 => ?_)
  · repeat (refine ev_step rfl rfl ?_)
    exact ev_ret rfl rfl
  · have h3 : (!decide ((((0 : Int32) >>> (g &&& 31)) &&& Int32.ofInt 1) = Int32.ofInt 1)) = false := h3
    rw [e] at h3
    exact absurd h3 (by decide)
/-- nobody is told: in the reference -/
theorem m_isGuest0 (d : Nat) (hp : sm_H) (fs : List Value) (l : List Int32) (g : Int32) (hk : hp[67]? = some (.inr (8, .ref 68 :: fs))) (hl : hp[68]? = some (.inl (0, .inl l))) (ht : l[144]? = some 0) : EM (d + 2) 145 [.ref 67, .int g] hp (some (.int 0)) hp := by
  refine em_in rfl ⟨Nat.le_of_ble_eq_true rfl, Nat.le_of_ble_eq_true rfl⟩ ?_
  by_cases h : g < 0 ∨ 11 < g
  · repeat (refine ev_step rfl rfl ?_)
    refine ev_call rfl rfl (m_in0 d hp g _ _ h) ?_
    repeat (refine ev_step rfl rfl ?_)
    exact ev_ret rfl rfl
  · repeat (refine ev_step rfl rfl ?_)
    refine ev_call rfl rfl (m_in1 d hp g _ _ (fun z => h (Or.inl z)) (fun z => h (Or.inr z))) ?_
    repeat (refine ev_step rfl rfl ?_)
    refine ev_gf rfl hk rfl ?_
    repeat (refine ev_step rfl rfl ?_)
    refine ev_al rfl hl (by decide) (show l[144]? = some 0 from ht) ?_
    repeat (refine ev_step rfl rfl ?_)
    refine ev_call rfl rfl (m_has0 d hp g) ?_
    repeat (refine ev_step rfl rfl ?_)
    exact ev_ret rfl rfl
