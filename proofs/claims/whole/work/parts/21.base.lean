/-! Plain facts: numbers, checks of numbers, rows of bits. -/
theorem i_lt {x y : Int32} : x < y ↔ x.toInt < y.toInt := Int32.lt_iff_toInt_lt
theorem i_le {x y : Int32} : x ≤ y ↔ x.toInt ≤ y.toInt := Int32.le_iff_toInt_le
theorem i_eq {x y : Int32} : x = y ↔ x.toInt = y.toInt := Int32.toInt_inj.symm
theorem n_t {n : Nat} (h : n < 2147483648) : (nI n).toInt = (n : Int) := nI_toInt h
theorem vin {x : Int32} {n : Nat} : vp_in x n ↔ 0 ≤ x.toInt ∧ x.toInt < n := vp_in_iff
theorem vinN {m n : Nat} (hm : m < 2147483648) : vp_in (nI m) n ↔ m < n := by
  rw [vin, n_t hm]; omega
theorem clN {m : Nat} (hm : m < 2147483648) : (nI m).toNatClampNeg = m := nI_clamp hm
theorem e_within (a : Int32) (n : Nat) (hn : n < 2147483648) (Q : Int32 → Prop) : wp_Qm_within a (nI n) Q ↔ ((vp_in a n → Q 1) ∧ (¬ vp_in a n → Q 0)) := by
  unfold wp_Qm_within
  rw [vin, i_lt, i_le, n_t hn]
  have h0 : (0 : Int32).toInt = 0 := rfl
  rw [h0]
  constructor
  · intro h
    refine ⟨fun h1 => (h.2 (by omega)).2 (by omega), fun h1 => ?_⟩
    by_cases h2 : a.toInt < 0
    · exact h.1 h2
    · exact (h.2 h2).1 (by omega)
  · intro h
    exact ⟨fun h1 => h.2 (by omega), fun h1 => ⟨fun h2 => h.2 (by omega), fun h2 => h.1 (by omega)⟩⟩
theorem lc_lt {x y : Int64} : lg_cmp x y < 0 ↔ x.toInt < y.toInt := by
  unfold lg_cmp
  by_cases h1 : x > y
  · rw [if_pos h1]
    have := Int64.lt_iff_toInt_lt.mp h1
    exact ⟨fun h => absurd h (by decide), fun h => by omega⟩
  · rw [if_neg h1]
    have h1' : ¬ y.toInt < x.toInt := fun h => h1 (Int64.lt_iff_toInt_lt.mpr h)
    by_cases h2 : x = y
    · rw [if_pos h2, h2]
      exact ⟨fun h => absurd h (by decide), fun h => by omega⟩
    · rw [if_neg h2]
      have h2' : ¬ x.toInt = y.toInt := fun h => h2 (Int64.toInt_inj.mp h)
      exact ⟨fun _ => by omega, fun _ => by decide⟩
theorem lc_gt {x y : Int64} : 0 < lg_cmp x y ↔ y.toInt < x.toInt := by
  unfold lg_cmp
  by_cases h1 : x > y
  · rw [if_pos h1]
    have := Int64.lt_iff_toInt_lt.mp h1
    exact ⟨fun _ => by omega, fun _ => by decide⟩
  · rw [if_neg h1]
    have h1' : ¬ y.toInt < x.toInt := fun h => h1 (Int64.lt_iff_toInt_lt.mpr h)
    by_cases h2 : x = y
    · rw [if_pos h2]
      exact ⟨fun h => absurd h (by decide), fun h => by omega⟩
    · rw [if_neg h2]
      exact ⟨fun h => absurd h (by decide), fun h => by omega⟩
theorem lc_le {x y : Int64} : lg_cmp x y ≤ 0 ↔ x.toInt ≤ y.toInt := by
  have h := @lc_gt x y
  rw [i_lt] at h
  rw [i_le]
  have h0 : (0 : Int32).toInt = 0 := rfl
  rw [h0] at h ⊢
  omega
theorem e_in (x y z : Int64) (Q : Int32 → Prop) : wp_Md_in x y z Q ↔ ((y.toInt ≤ x.toInt ∧ x.toInt ≤ z.toInt → Q 1) ∧ (¬ (y.toInt ≤ x.toInt ∧ x.toInt ≤ z.toInt) → Q 0)) := by
  unfold wp_Md_in
  rw [lc_lt, lc_gt]
  constructor
  · intro h
    refine ⟨fun h1 => (h.2 (by omega)).2 (by omega), fun h1 => ?_⟩
    by_cases h2 : x.toInt < y.toInt
    · exact h.1 h2
    · exact (h.2 h2).1 (by omega)
  · intro h
    exact ⟨fun h1 => h.2 (by omega), fun h1 => ⟨fun h2 => h.2 (by omega), fun h2 => h.1 (by omega)⟩⟩
theorem t64 (a : Int32) : (Int32.toInt64 a).toInt = a.toInt := Int32.toInt_toInt64 a
theorem e_in0 (a : Int32) (z : Int64) (n : Nat) (hz : z.toInt + 1 = n) (Q : Int32 → Prop) : wp_Md_in (Int32.toInt64 a) 0 z Q ↔ ((vp_in a n → Q 1) ∧ (¬ vp_in a n → Q 0)) := by
  rw [e_in, t64, vin]
  have h0 : (0 : Int64).toInt = 0 := rfl
  rw [h0]
  have e : (0 ≤ a.toInt ∧ a.toInt ≤ z.toInt) ↔ (0 ≤ a.toInt ∧ a.toInt < n) := by omega
  rw [e]
theorem nb0 : narrow .boolean (.int 0) = .int 0 := rfl
theorem nb1 : narrow .boolean (.int 1) = .int 1 := rfl
theorem e_isMask (a : Int32) (Q : Int32 → Prop) : wp_Qm_isMask a Q ↔ ((vp_in a 4 → Q 1) ∧ (¬ vp_in a 4 → Q 0)) := by
  unfold wp_Qm_isMask
  have h := e_within a 4 (by omega) (fun r => narrow .boolean (.int r) = .int r ∧ Q r)
  refine h.trans ?_
  simp only [nb0, nb1, true_and]
theorem e_isSheet (a : Int32) (Q : Int32 → Prop) : wp_Qm_isSheet a Q ↔ ((vp_in a 4 → Q 1) ∧ (¬ vp_in a 4 → Q 0)) := by
  unfold wp_Qm_isSheet
  have h := e_within a 4 (by omega) (fun r => narrow .boolean (.int r) = .int r ∧ Q r)
  refine h.trans ?_
  simp only [nb0, nb1, true_and]
theorem br1 {A B : Prop} : (((1 : Int32) = 0 → A) ∧ (¬ (1 : Int32) = 0 → B)) ↔ B := ⟨fun h => h.2 (by decide), fun h => ⟨fun e => absurd e (by decide), fun _ => h⟩⟩
theorem br0 {A B : Prop} : (((0 : Int32) = 0 → A) ∧ (¬ (0 : Int32) = 0 → B)) ↔ A := ⟨fun h => h.1 rfl, fun h => ⟨fun _ => h, fun e => absurd rfl e⟩⟩
theorem e_isCell (a b : Int32) (Q : Int32 → Prop) : wp_Qm_isCell a b Q ↔ ((vp_in a 16 ∧ vp_in b 16 → Q 1) ∧ (¬ (vp_in a 16 ∧ vp_in b 16) → Q 0)) := by
  unfold wp_Qm_isCell
  refine (e_within a 16 (by omega) _).trans ?_
  rw [br1, br0]
  have h := e_within b 16 (by omega) (fun r_2 => (r_2 = 0 → (Q 0)) ∧ (¬ r_2 = 0 → (Q 1)))
  rw [show wp_Qm_within b 16 _ ↔ _ from h, br1, br0]
  by_cases h1 : vp_in a 16 <;> by_cases h2 : vp_in b 16 <;> simp [h1, h2]
theorem f_isMask (a : Int32) (Q : Int32 → Prop) : wp_Md_isMask a Q ↔ ((vp_in a 4 → Q 1) ∧ (¬ vp_in a 4 → Q 0)) := by
  unfold wp_Md_isMask
  refine (e_in0 a 3 4 (by decide) _).trans ?_
  simp only [nb0, nb1, true_and]
theorem f_isSheet (a : Int32) (Q : Int32 → Prop) : wp_Md_isSheet a Q ↔ ((vp_in a 4 → Q 1) ∧ (¬ vp_in a 4 → Q 0)) := by
  unfold wp_Md_isSheet
  refine (e_in0 a 3 4 (by decide) _).trans ?_
  simp only [nb0, nb1, true_and]
theorem f_isTwo (a : Int32) (Q : Int32 → Prop) : wp_Md_isTwo a Q ↔ ((vp_in a 2 → Q 1) ∧ (¬ vp_in a 2 → Q 0)) := by
  unfold wp_Md_isTwo
  refine (e_in0 a 1 2 (by decide) _).trans ?_
  simp only [nb0, nb1, true_and]
theorem f_isCell (a b : Int32) (Q : Int32 → Prop) : wp_Md_isCell a b Q ↔ ((vp_in a 16 ∧ vp_in b 16 → Q 1) ∧ (¬ (vp_in a 16 ∧ vp_in b 16) → Q 0)) := by
  unfold wp_Md_isCell
  refine (e_in0 a 15 16 (by decide) _).trans ?_
  rw [br1, br0]
  have h := e_in0 b 15 16 (by decide) (fun r_2 => (r_2 = 0 → (Q 0)) ∧ (¬ r_2 = 0 → (Q 1)))
  rw [h, br1, br0]
  by_cases h1 : vp_in a 16 <;> by_cases h2 : vp_in b 16 <;> simp [h1, h2]
theorem e_w2 (a : Int32) (Q : Int32 → Prop) : wp_Qm_within a 2 Q ↔ ((vp_in a 2 → Q 1) ∧ (¬ vp_in a 2 → Q 0)) := e_within a 2 (by omega) Q
theorem e_w3 (a : Int32) (Q : Int32 → Prop) : wp_Qm_within a 3 Q ↔ ((vp_in a 3 → Q 1) ∧ (¬ vp_in a 3 → Q 0)) := e_within a 3 (by omega) Q
theorem e_w4 (a : Int32) (Q : Int32 → Prop) : wp_Qm_within a 4 Q ↔ ((vp_in a 4 → Q 1) ∧ (¬ vp_in a 4 → Q 0)) := e_within a 4 (by omega) Q
theorem e_w6 (a : Int32) (Q : Int32 → Prop) : wp_Qm_within a 6 Q ↔ ((vp_in a 6 → Q 1) ∧ (¬ vp_in a 6 → Q 0)) := e_within a 6 (by omega) Q
theorem e_w16 (a : Int32) (Q : Int32 → Prop) : wp_Qm_within a 16 Q ↔ ((vp_in a 16 → Q 1) ∧ (¬ vp_in a 16 → Q 0)) := e_within a 16 (by omega) Q
theorem e_w17 (a : Int32) (Q : Int32 → Prop) : wp_Qm_within a 17 Q ↔ ((vp_in a 17 → Q 1) ∧ (¬ vp_in a 17 → Q 0)) := e_within a 17 (by omega) Q
theorem e_w31 (a : Int32) (Q : Int32 → Prop) : wp_Qm_within a 31 Q ↔ ((vp_in a 31 → Q 1) ∧ (¬ vp_in a 31 → Q 0)) := e_within a 31 (by omega) Q
theorem e_w60 (a : Int32) (Q : Int32 → Prop) : wp_Qm_within a 60 Q ↔ ((vp_in a 60 → Q 1) ∧ (¬ vp_in a 60 → Q 0)) := e_within a 60 (by omega) Q
theorem e_w256 (a : Int32) (Q : Int32 → Prop) : wp_Qm_within a 256 Q ↔ ((vp_in a 256 → Q 1) ∧ (¬ vp_in a 256 → Q 0)) := e_within a 256 (by omega) Q
theorem e_w341 (a : Int32) (Q : Int32 → Prop) : wp_Qm_within a 341 Q ↔ ((vp_in a 341 → Q 1) ∧ (¬ vp_in a 341 → Q 0)) := e_within a 341 (by omega) Q
theorem f_i1 (a : Int32) (Q : Int32 → Prop) : wp_Md_in (Int32.toInt64 a) 0 1 Q ↔ ((vp_in a 2 → Q 1) ∧ (¬ vp_in a 2 → Q 0)) := e_in0 a 1 2 (by decide) Q
theorem f_i2 (a : Int32) (Q : Int32 → Prop) : wp_Md_in (Int32.toInt64 a) 0 2 Q ↔ ((vp_in a 3 → Q 1) ∧ (¬ vp_in a 3 → Q 0)) := e_in0 a 2 3 (by decide) Q
theorem f_i3 (a : Int32) (Q : Int32 → Prop) : wp_Md_in (Int32.toInt64 a) 0 3 Q ↔ ((vp_in a 4 → Q 1) ∧ (¬ vp_in a 4 → Q 0)) := e_in0 a 3 4 (by decide) Q
theorem f_i5 (a : Int32) (Q : Int32 → Prop) : wp_Md_in (Int32.toInt64 a) 0 5 Q ↔ ((vp_in a 6 → Q 1) ∧ (¬ vp_in a 6 → Q 0)) := e_in0 a 5 6 (by decide) Q
theorem f_i16 (a : Int32) (Q : Int32 → Prop) : wp_Md_in (Int32.toInt64 a) 0 16 Q ↔ ((vp_in a 17 → Q 1) ∧ (¬ vp_in a 17 → Q 0)) := e_in0 a 16 17 (by decide) Q
theorem f_i30 (a : Int32) (Q : Int32 → Prop) : wp_Md_in (Int32.toInt64 a) 0 30 Q ↔ ((vp_in a 31 → Q 1) ∧ (¬ vp_in a 31 → Q 0)) := e_in0 a 30 31 (by decide) Q
theorem f_i255 (a : Int32) (Q : Int32 → Prop) : wp_Md_in (Int32.toInt64 a) 0 255 Q ↔ ((vp_in a 256 → Q 1) ∧ (¬ vp_in a 256 → Q 0)) := e_in0 a 255 256 (by decide) Q
theorem f_i340 (a : Int32) (Q : Int32 → Prop) : wp_Md_in (Int32.toInt64 a) 0 340 Q ↔ ((vp_in a 341 → Q 1) ∧ (¬ vp_in a 341 → Q 0)) := e_in0 a 340 341 (by decide) Q
