/-! Parts that hang together: their numbers are one thing only. -/
theorem conn_refl (p : Nat → Bool) (a : Nat) : Conn p a a := fun _ h _ => h
theorem conn_step {p : Nat → Bool} {a b c : Nat} (h : Conn p a b) (hb : adj b c) (hc : p c = true) : Conn p a c := fun S h0 hs => hs b c (h S h0 hs) hb hc
theorem conn_trans {p : Nat → Bool} {a b c : Nat} (h1 : Conn p a b) (h2 : Conn p b c) : Conn p a c := fun S h0 hs => h2 S (h1 S h0 hs) hs
theorem adj_symm {a b : Nat} (h : adj a b) : adj b a := by
  unfold adj at h ⊢
  omega
theorem conn_symm {p : Nat → Bool} {a b : Nat} (h : Conn p a b) (ha : p a = true) : Conn p b a := by
  have := h (fun x => p x = true ∧ Conn p x a) ⟨ha, conn_refl p a⟩ (fun x y hx hxy hy => ⟨hy, conn_trans (conn_step (conn_refl p y) (adj_symm hxy) hx.1) hx.2⟩)
  exact this.2
theorem nI_m1 {n : Nat} (h : n < 1000) : ¬ nI n = (-1) := ne_m1 (by omega)
theorem nI_inj {a b : Nat} (ha : a < 1000) (hb : b < 1000) (h : nI a = nI b) : a = b := (nI_eq (by omega) (by omega)).mp h
/-- numbering as far as cell i -/
def J (p : Nat → Bool) (lab : IA) (n i : Nat) : Prop :=
  n ≤ 128 ∧
  (∀ c, c < 256 → lab c = (-1) ∨ (p c = true ∧ ∃ k, k < n ∧ lab c = nI k)) ∧
  (∀ c, c < i → c < 256 → p c = true → lab c ≠ (-1)) ∧
  (∀ c c' k, c < 256 → k < n → lab c = nI k → adj c c' → p c' = true → lab c' = nI k) ∧
  (∀ c c' k, c < 256 → c' < 256 → k < n → lab c = nI k → lab c' = nI k → Conn p c c') ∧
  (∀ k, k < n → ∃ c, c < i ∧ c < 256 ∧ lab c = nI k) ∧
  (∀ c k, c < 256 → k < n → lab c = nI k → ∀ j, j < k → ∃ c', c' < c ∧ lab c' = nI j)
def FL (p : Nat → Bool) (lab lab' : IA) (r n : Nat) : Prop :=
  (∀ c, c < 256 → lab' c = lab c ∨ (lab c = (-1) ∧ lab' c = nI n ∧ p c = true ∧ Conn p r c)) ∧ lab' r = nI n ∧
  (∀ c c', c < 256 → lab c = (-1) → lab' c = nI n → adj c c' → p c' = true → lab' c' ≠ (-1))
theorem J_0 {p : Nat → Bool} {lab : IA} (h : ∀ c, c < 256 → lab c = (-1)) : J p lab 0 0 :=
  ⟨by omega, fun c hc => Or.inl (h c hc), fun c hc => by omega, fun c c' k _ hk => by omega, fun c c' k _ _ hk => by omega, fun k hk => by omega, fun c k _ hk => by omega⟩
theorem J_skip {p : Nat → Bool} {lab : IA} {n i : Nat} (h : J p lab n i) (hi : lab i ≠ (-1) ∨ p i = false) : J p lab n (i + 1) := by
  obtain ⟨h0, h1, h2, h3, h4, h5, h6⟩ := h
  refine ⟨h0, h1, fun c hc hc2 hp => ?_, h3, h4, fun k hk => ?_, h6⟩
  · by_cases q : c = i
    · subst q
      rcases hi with w | w
      · exact w
      · rw [w] at hp; cases hp
    · exact h2 c (by omega) hc2 hp
  · obtain ⟨c, a, b, d⟩ := h5 k hk
    exact ⟨c, by omega, b, d⟩
theorem pair_adj {a b : Nat} (ha : a < 256) (hb : b < 256) (h : a / 2 = b / 2) (ne : a ≠ b) : adj a b := by
  unfold adj
  omega
theorem J_new {p : Nat → Bool} {lab : IA} {n i : Nat} (h : J p lab n i) (hi : i < 256) (hp : p i = true) (hl : lab i = (-1)) : n + 1 ≤ 128 := by
  obtain ⟨h0, h1, h2, h3, h4, h5, h6⟩ := h
  have hc : ∀ k : Nat, ∃ c : Nat, k < n → (c < 256 ∧ lab c = nI k) := by
    intro k
    by_cases q : k < n
    · obtain ⟨c, _, b, d⟩ := h5 k q
      exact ⟨c, fun _ => ⟨b, d⟩⟩
    · exact ⟨0, fun w => absurd w q⟩
  obtain ⟨g, hg⟩ := Classical.axiomOfChoice hc
  refine fb_holes 128 (n + 1) (fun k => if k = n then i / 2 else g k / 2) (fun k hk => ?_) (fun a b hab hb e => ?_)
  · by_cases q : k = n
    · rw [if_pos q]; omega
    · rw [if_neg q]; have := (hg k (by omega)).1; omega
  · rw [if_neg (show ¬ a = n by omega)] at e
    obtain ⟨a1, a2⟩ := hg a (by omega)
    by_cases q : b = n
    · rw [if_pos q] at e
      have ne : g a ≠ i := fun w => by
        rw [w, hl] at a2
        exact nI_m1 (by omega) a2.symm
      have := h3 (g a) i a a1 (by omega) a2 (pair_adj a1 hi e ne) hp
      rw [hl] at this
      exact nI_m1 (by omega) this.symm
    · rw [if_neg q] at e
      obtain ⟨b1, b2⟩ := hg b (by omega)
      have pb : p (g b) = true := by
        rcases h1 (g b) b1 with w | ⟨w, _⟩
        · rw [w] at b2
          exact absurd b2.symm (nI_m1 (by omega))
        · exact w
      have : lab (g b) = nI a := by
        by_cases w : g a = g b
        · rw [← w]; exact a2
        · exact h3 (g a) (g b) a a1 (by omega) a2 (pair_adj a1 b1 e w) pb
      rw [b2] at this
      have := nI_inj (by omega) (by omega) this
      omega
theorem J_step {p : Nat → Bool} {lab lab' : IA} {n i : Nat} (h : J p lab n i) (hi : i < 256) (hp : p i = true) (hl : lab i = (-1)) (hF : FL p lab lab' i n) : J p lab' (n + 1) (i + 1) := by
  have hn := J_new h hi hp hl
  obtain ⟨h0, h1, h2, h3, h4, h5, h6⟩ := h
  obtain ⟨f1, f2, f3⟩ := hF
  have nm : ¬ nI n = (-1) := nI_m1 (by omega)
  have no : ∀ c, c < 256 → lab c ≠ nI n := by
    intro c hc e
    rcases h1 c hc with w | ⟨_, k, hk, w⟩
    · rw [w] at e; exact nm e.symm
    · rw [w] at e
      have := nI_inj (by omega) (by omega) e
      omega
  have keep : ∀ c k, c < 256 → k < n → (lab' c = nI k ↔ lab c = nI k) := by
    intro c k hc hk
    rcases f1 c hc with w | ⟨w1, w2, _⟩
    · rw [w]
    · rw [w1, w2]
      constructor
      · intro e
        have := nI_inj (by omega) (by omega) e
        omega
      · intro e
        exact absurd e.symm (nI_m1 (by omega))
  have newc : ∀ c, c < 256 → lab' c = nI n → lab c = (-1) ∧ p c = true ∧ Conn p i c := by
    intro c hc e
    rcases f1 c hc with w | ⟨w1, _, w3, w4⟩
    · rw [w] at e
      exact absurd e (no c hc)
    · exact ⟨w1, w3, w4⟩
  have adjb : ∀ a b, adj a b → b < 256 := fun a b h => h.2.1
  refine ⟨hn, fun c hc => ?_, fun c hc hc2 hpc => ?_, fun c c' k hc hk e ha hpc => ?_, fun c c' k hc hc' hk e e' => ?_, fun k hk => ?_, fun c k hc hk e j hj => ?_⟩
  · rcases f1 c hc with w | ⟨w1, w2, w3, w4⟩
    · rw [w]
      rcases h1 c hc with z | ⟨z1, k, z2, z3⟩
      · exact Or.inl z
      · exact Or.inr ⟨z1, k, by omega, z3⟩
    · exact Or.inr ⟨w3, n, by omega, w2⟩
  · by_cases q : c = i
    · rw [q, f2]; exact nm
    · rcases f1 c hc2 with w | ⟨w1, w2, _⟩
      · rw [w]; exact h2 c (by omega) hc2 hpc
      · rw [w2]; exact nm
  · by_cases q : k = n
    · subst q
      obtain ⟨z1, z2, z3⟩ := newc c hc e
      have z4 := f3 c c' hc z1 e ha hpc
      rcases f1 c' (adjb _ _ ha) with w | ⟨_, w2, _⟩
      · rw [w] at z4
        rcases h1 c' (adjb _ _ ha) with u | ⟨_, k2, u2, u3⟩
        · exact absurd u z4
        · have := h3 c' c k2 (adjb _ _ ha) u2 u3 (adj_symm ha) z2
          rw [z1] at this
          exact absurd this.symm (nI_m1 (by omega))
      · exact w2
    · have hk' : k < n := by omega
      rw [keep c' k (adjb _ _ ha) hk']
      exact h3 c c' k hc hk' ((keep c k hc hk').mp e) ha hpc
  · by_cases q : k = n
    · subst q
      exact conn_trans (conn_symm (newc c hc e).2.2 hp) (newc c' hc' e').2.2
    · have hk' : k < n := by omega
      exact h4 c c' k hc hc' hk' ((keep c k hc hk').mp e) ((keep c' k hc' hk').mp e')
  · by_cases q : k = n
    · subst q
      exact ⟨i, by omega, hi, f2⟩
    · obtain ⟨c, a, b, d⟩ := h5 k (by omega)
      exact ⟨c, by omega, b, (keep c k b (by omega)).mpr d⟩
  · by_cases q : k = n
    · subst q
      obtain ⟨z1, z2, z3⟩ := newc c hc e
      obtain ⟨c2, a, b, d⟩ := h5 j hj
      have : ¬ c < i := fun w => h2 c w hc z2 z1
      exact ⟨c2, by omega, (keep c2 j b hj).mpr d⟩
    · obtain ⟨c2, a, b⟩ := h6 c k hc (by omega) ((keep c k hc (by omega)).mp e) j hj
      exact ⟨c2, a, (keep c2 j (by omega) (by omega)).mpr b⟩
theorem J_end {p : Nat → Bool} {lab : IA} {n : Nat} (h : J p lab n 256) : n ≤ 128 ∧ IsLab p lab n := by
  obtain ⟨h0, h1, h2, h3, h4, h5, h6⟩ := h
  have kn : ∀ c, c < 256 → p c = true → ∃ k, k < n ∧ lab c = nI k := by
    intro c hc hp
    rcases h1 c hc with w | ⟨_, w⟩
    · exact absurd w (h2 c hc hc hp)
    · exact w
  refine ⟨h0, fun c hc hp => ?_, kn, fun c c' hc hc' hp hp' => ⟨fun e => ?_, fun e => ?_⟩, h6, fun k hk => ?_⟩
  · rcases h1 c hc with w | ⟨w, _⟩
    · exact w
    · rw [w] at hp; cases hp
  · obtain ⟨k, hk, ek⟩ := kn c hc hp
    exact h4 c c' k hc hc' hk ek (by rw [← e]; exact ek)
  · obtain ⟨k, hk, ek⟩ := kn c hc hp
    have := e (fun x => x < 256 ∧ lab x = nI k) ⟨hc, ek⟩ (fun x y hx hxy hy => ⟨hxy.2.1, h3 x y k hx.1 hk hx.2 hxy hy⟩)
    rw [ek, this.2]
  · obtain ⟨c, _, b, d⟩ := h5 k hk
    exact ⟨c, b, d⟩
theorem lab_p {p : Nat → Bool} {L : IA} {n c k : Nat} (h : IsLab p L n) (hc : c < 256) (hk : k < 1000) (e : L c = nI k) : p c = true := by
  cases hp : p c
  · rw [h.1 c hc hp] at e
    exact absurd e.symm (nI_m1 hk)
  · rfl
theorem lab_one {p : Nat → Bool} {L L' : IA} {n n' : Nat} (h : IsLab p L n) (h' : IsLab p L' n') (hn : n ≤ 128) (hn' : n' ≤ 128) : n = n' ∧ ∀ c, c < 256 → L c = L' c := by
  have half : ∀ {L L' : IA} {n n' : Nat}, IsLab p L n → IsLab p L' n' → n ≤ 128 → n' ≤ 128 → ∀ c, c < 256 → p c = true → (∀ c2, c2 < c → L c2 = L' c2) → (¬ ∃ c2, c2 < c ∧ p c2 = true ∧ Conn p c2 c) → ∀ k k', k < n → k' < n' → L c = nI k → L' c = nI k' → ¬ k < k' := by
    intro L L' n n' h h' hn hn' c hc hp heq hfirst k k' hk hk' e e' hlt
    obtain ⟨c2, a, b⟩ := h'.2.2.2.1 c k' hc hk' e' k hlt
    have b2 : L c2 = nI k := by rw [heq c2 a]; exact b
    have p2 := lab_p h (by omega) (by omega) b2
    exact hfirst ⟨c2, a, p2, (h.2.2.1 c2 c (by omega) hc p2 hp).mp (by rw [b2, e])⟩
  have main : ∀ m c, c < m → c < 256 → L c = L' c := by
    intro m
    induction m with
    | zero => intro c hc; omega
    | succ m ih =>
      intro c hcm hc
      by_cases q : c < m
      · exact ih c q hc
      · have hcm : c = m := by omega
        cases hp : p c
        · rw [h.1 c hc hp, h'.1 c hc hp]
        · have heq : ∀ c2, c2 < c → L c2 = L' c2 := fun c2 h2 => ih c2 (by omega) (by omega)
          by_cases w : ∃ c2, c2 < c ∧ p c2 = true ∧ Conn p c2 c
          · obtain ⟨c2, a, p2, cn⟩ := w
            rw [← (h.2.2.1 c2 c (by omega) hc p2 hp).mpr cn, ← (h'.2.2.1 c2 c (by omega) hc p2 hp).mpr cn]
            exact heq c2 a
          · obtain ⟨k, hk, e⟩ := h.2.1 c hc hp
            obtain ⟨k', hk', e'⟩ := h'.2.1 c hc hp
            have a1 := half h h' hn hn' c hc hp heq w k k' hk hk' e e'
            have a2 := half h' h hn' hn c hc hp (fun c2 h2 => (heq c2 h2).symm) w k' k hk' hk e' e
            have : k = k' := by omega
            rw [e, e', this]
  have all : ∀ c, c < 256 → L c = L' c := fun c hc => main (c + 1) c (by omega) hc
  refine ⟨?_, all⟩
  have le : ∀ {L L' : IA} {n n' : Nat}, IsLab p L n → IsLab p L' n' → n ≤ 128 → n' ≤ 128 → (∀ c, c < 256 → L c = L' c) → ¬ n' < n := by
    intro L L' n n' h h' hn hn' heq hlt
    obtain ⟨c, hc, e⟩ := h.2.2.2.2 n' hlt
    have p1 := lab_p h hc (by omega) e
    obtain ⟨k, hk, e2⟩ := h'.2.1 c hc p1
    rw [← heq c hc, e] at e2
    have := nI_inj (by omega) (by omega) e2
    omega
  have b1 := le h h' hn hn' all
  have b2 := le h' h hn' hn (fun c hc => (all c hc).symm)
  omega
theorem conn_congr {p q : Nat → Bool} (h : ∀ c, c < 256 → p c = q c) {a b : Nat} (hc : Conn p a b) : Conn q a b := fun S h0 hs => hc S h0 (fun x y hx hxy hy => hs x y hx hxy (by rw [← h y hxy.2.1]; exact hy))
theorem lab_congr {p q : Nat → Bool} (h : ∀ c, c < 256 → p c = q c) {L : IA} {n : Nat} (hl : IsLab p L n) : IsLab q L n := by
  obtain ⟨h1, h2, h3, h4, h5⟩ := hl
  refine ⟨fun c hc hp => h1 c hc (by rw [h c hc]; exact hp), fun c hc hp => h2 c hc (by rw [h c hc]; exact hp), fun c c' hc hc' hp hp' => ?_, h4, h5⟩
  rw [h3 c c' hc hc' (by rw [h c hc]; exact hp) (by rw [h c' hc']; exact hp')]
  exact ⟨conn_congr h, conn_congr (fun c hc => (h c hc).symm)⟩
