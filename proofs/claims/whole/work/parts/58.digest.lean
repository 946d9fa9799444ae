/-! The digest. -/
def mix (h : Int64) (v : Int32) : Int64 := (31 * h) + (Int32.toInt64 v)
def fo (g : Nat → Int32) : Nat → Int64 → Int64
  | 0, h => h
  | n + 1, h => mix (fo g n h) (g n)
def fo2 (F : Nat → Int64 → Int64) : Nat → Int64 → Int64
  | 0, h => h
  | n + 1, h => F n (fo2 F n h)
theorem lt4 : (3 : Int32) < nI 4 := by decide
theorem nlt4 {i : Nat} (h : i < 4) : ¬ (3 : Int32) < nI i := nI_nlt (a := 3) (b := i) (by omega) (by omega)
theorem vi_s (i : Nat) : nI i - 1 + 1 = nI (i + 1) - 1 := by rw [Int32.sub_add_cancel, nI_pred]
theorem vi_ok {i : Nat} (h : i < 342) : nI i - 1 = (-1) ∨ vp_in (nI i - 1) 341 := by
  rcases Nat.eq_zero_or_pos i with q | q
  · subst q; exact Or.inl (by decide)
  · refine Or.inr ?_
    obtain ⟨j, rfl⟩ : ∃ j, i = j + 1 := ⟨i - 1, by omega⟩
    rw [nI_pred]
    exact vp_in_nI (by omega) (by omega)
noncomputable def dBF (d : Nat → Nat → Bool) (h : Int64) : Int64 := fo (fun i => shownF d (nI i - 1)) 42 (fo (fun i => allF d (nI i)) 4 (fo (fun i => blocksF d (nI i)) 4 h))
noncomputable def mx4 (d : Nat → Nat → Bool) (x y : Nat) (h : Int64) : Int64 := mix (mix (mix (mix h (cellF d x y)) (blockF d x y 2)) (labC d (16 * y + x))) (nearF d x y)
noncomputable def dCF (d : Nat → Nat → Bool) (h : Int64) : Int64 := fo2 (fun j => fo2 (fun i => mx4 d (5 * i) (3 * j)) 4) 6 h
noncomputable def dPF (d : Nat → Nat → Bool) (h : Int64) : Int64 := fo2 (fun k => fo (fun w => partF d (nI k) w) 6) 4 h
noncomputable def dQF (D : Nat → Nat → Nat → Bool) (m : Nat) (h : Int64) : Int64 := fo2 (fun b => fo (fun w => bothF (D m) (D b) (nI w)) 4) 4 h
noncomputable def mskF (D : Nat → Nat → Nat → Bool) (m : Nat) (h : Int64) : Int64 := dQF D m (dPF (D m) (dCF (D m) (dBF (D m) h)))
theorem fo2_s (F : Nat → Int64 → Int64) (n : Nat) (h : Int64) : fo2 F (n + 1) h = F n (fo2 F n h) := rfl
noncomputable def digF (D : Nat → Nat → Nat → Bool) (kn lf : Int32) : Int64 := fo2 (mskF D) 4 (fo (fun i => countF D kn lf (nI i)) 8 17)
/-! the program's -/
theorem s_dB6 {mk : Nat → IA} {m : Nat} (hm : m < 4) (hg : g16 (mk m)) {sS sL : IA} {sT sD sM sX : Int32} {h : Int64} (hS : SignsOK sS sL sT sD sM sX) {K : Int32 → Int64 → IA → IA → Int32 → Int32 → Int32 → Int32 → Prop} (hK : ∀ S L T D M X, SignsOK S L T D M X → K (nI 4) (fo (fun i => blocksF (dk (mk m)) (nI i)) 4 h) S L T D M X) : ∃ k, wl_Qm_digestOfBlocks_6 mk (nI m) K k 0 h sS sL sT sD sM sX := by
  refine lp (fun n i (s : Int64 × IA × IA × Int32 × Int32 × Int32 × Int32) => wl_Qm_digestOfBlocks_6 mk (nI m) K n (nI i) s.1 s.2.1 s.2.2.1 s.2.2.2.1 s.2.2.2.2.1 s.2.2.2.2.2.1 s.2.2.2.2.2.2) (fun i s => s.1 = fo (fun i => blocksF (dk (mk m)) (nI i)) i h ∧ SignsOK s.2.1 s.2.2.1 s.2.2.2.1 s.2.2.2.2.1 s.2.2.2.2.2.1 s.2.2.2.2.2.2) 4 (h, sS, sL, sT, sD, sM, sX) ⟨rfl, hS⟩ (fun n s hs => ?_) (fun n i s hi hs ih => ?_)
  · obtain ⟨v, S, L, T, D, M, X⟩ := s
    obtain ⟨h1, h2⟩ := hs
    simp only at h1 h2
    show wl_Qm_digestOfBlocks_6 mk (nI m) K (n + 1) (nI 4) v S L T D M X
    rw [wl_Qm_digestOfBlocks_6]
    subst h1
    exact ⟨fun _ => hK _ _ _ _ _ _ h2, fun q => absurd lt4 q⟩
  · obtain ⟨v, S, L, T, D, M, X⟩ := s
    obtain ⟨h1, h2⟩ := hs
    simp only at h1 h2
    show wl_Qm_digestOfBlocks_6 mk (nI m) K (n + 1) (nI i) v S L T D M X
    rw [wl_Qm_digestOfBlocks_6]
    refine ⟨fun q => absurd q (nlt4 hi), fun _ => qs_blocks h2 hm hg (vp_in_nI hi (by omega)) (fun S' L' T' D' M' X' h3 => ?_)⟩
    intro v2 ev2
    rw [nI_1]
    refine ih (v2, S', L', T', D', M', X') ⟨?_, h3⟩
    show v2 = mix (fo _ i h) _
    rw [ev2, h1]; rfl
theorem s_dB38 {mk : Nat → IA} {m : Nat} (hm : m < 4) (hg : g16 (mk m)) {sp dS dL dR dF lS lL lR lF : IA} {dP lP : Int32} {h : Int64} (hP : PartsOK dS dL dF dP) (hL : PartsOK lS lL lF lP) {K : Int32 → Int64 → IA → IA → IA → IA → IA → Int32 → IA → IA → IA → IA → Int32 → Prop} (hK : ∀ sp' S L R F P S2 L2 R2 F2 P2, PartsOK S L F P → PartsOK S2 L2 F2 P2 → K (nI 4) (fo (fun i => allF (dk (mk m)) (nI i)) 4 h) sp' S L R F P S2 L2 R2 F2 P2) : ∃ k, wl_Qm_digestOfBlocks_38 mk (nI m) K k 0 h sp dS dL dR dF dP lS lL lR lF lP := by
  refine lp (fun n i (s : Int64 × IA × IA × IA × IA × IA × Int32 × IA × IA × IA × IA × Int32) => wl_Qm_digestOfBlocks_38 mk (nI m) K n (nI i) s.1 s.2.1 s.2.2.1 s.2.2.2.1 s.2.2.2.2.1 s.2.2.2.2.2.1 s.2.2.2.2.2.2.1 s.2.2.2.2.2.2.2.1 s.2.2.2.2.2.2.2.2.1 s.2.2.2.2.2.2.2.2.2.1 s.2.2.2.2.2.2.2.2.2.2.1 s.2.2.2.2.2.2.2.2.2.2.2) (fun i s => s.1 = fo (fun i => allF (dk (mk m)) (nI i)) i h ∧ PartsOK s.2.2.1 s.2.2.2.1 s.2.2.2.2.2.1 s.2.2.2.2.2.2.1 ∧ PartsOK s.2.2.2.2.2.2.2.1 s.2.2.2.2.2.2.2.2.1 s.2.2.2.2.2.2.2.2.2.2.1 s.2.2.2.2.2.2.2.2.2.2.2) 4 (h, sp, dS, dL, dR, dF, dP, lS, lL, lR, lF, lP) ⟨rfl, hP, hL⟩ (fun n s hs => ?_) (fun n i s hi hs ih => ?_)
  · obtain ⟨v, sp1, S, L, R, F, P, S2, L2, R2, F2, P2⟩ := s
    obtain ⟨h1, h2, h3⟩ := hs
    simp only at h1 h2 h3
    show wl_Qm_digestOfBlocks_38 mk (nI m) K (n + 1) (nI 4) v sp1 S L R F P S2 L2 R2 F2 P2
    rw [wl_Qm_digestOfBlocks_38]
    subst h1
    exact ⟨fun _ => hK _ _ _ _ _ _ _ _ _ _ _ h2 h3, fun q => absurd lt4 q⟩
  · obtain ⟨v, sp1, S, L, R, F, P, S2, L2, R2, F2, P2⟩ := s
    obtain ⟨h1, h2, h3⟩ := hs
    simp only at h1 h2 h3
    show wl_Qm_digestOfBlocks_38 mk (nI m) K (n + 1) (nI i) v sp1 S L R F P S2 L2 R2 F2 P2
    rw [wl_Qm_digestOfBlocks_38]
    refine ⟨fun q => absurd q (nlt4 hi), fun _ => qs_all h2 h3 hm hg (vp_in_nI hi (by omega)) (fun sp' S' L' R' F' P' S2' L2' R2' F2' P2' g1 g2 => ?_)⟩
    intro v2 ev2
    rw [nI_1]
    refine ih (v2, sp', S', L', R', F', P', S2', L2', R2', F2', P2') ⟨?_, g1, g2⟩
    show v2 = mix (fo _ i h) _
    rw [ev2, h1]; rfl
theorem s_dB70 {mk : Nat → IA} {m : Nat} (hm : m < 4) (hg : g16 (mk m)) {sS sL : IA} {sT sD sM sX : Int32} {h : Int64} (hS : SignsOK sS sL sT sD sM sX) {sp dS dL dR dF lS lL lR lF : IA} {dP lP : Int32} {Q : Int64 → IA → IA → IA → IA → IA → Int32 → IA → IA → IA → IA → Int32 → IA → IA → Int32 → Int32 → Int32 → Int32 → Prop} (hK : ∀ S L T D M X, SignsOK S L T D M X → Q (fo (fun i => shownF (dk (mk m)) (nI i - 1)) 42 h) sp dS dL dR dF dP lS lL lR lF lP S L T D M X) : ∃ k, wl_Qm_digestOfBlocks_70 mk (nI m) Q sp dS dL dR dF dP lS lL lR lF lP k (-1) h sS sL sT sD sM sX := by
  rw [show (-1 : Int32) = nI 0 - 1 by decide]
  refine lp (fun n i (s : Int64 × IA × IA × Int32 × Int32 × Int32 × Int32) => wl_Qm_digestOfBlocks_70 mk (nI m) Q sp dS dL dR dF dP lS lL lR lF lP n (nI i - 1) s.1 s.2.1 s.2.2.1 s.2.2.2.1 s.2.2.2.2.1 s.2.2.2.2.2.1 s.2.2.2.2.2.2) (fun i s => s.1 = fo (fun i => shownF (dk (mk m)) (nI i - 1)) i h ∧ SignsOK s.2.1 s.2.2.1 s.2.2.2.1 s.2.2.2.2.1 s.2.2.2.2.2.1 s.2.2.2.2.2.2) 42 (h, sS, sL, sT, sD, sM, sX) ⟨rfl, hS⟩ (fun n s hs => ?_) (fun n i s hi hs ih => ?_)
  · obtain ⟨v, S, L, T, D, M, X⟩ := s
    obtain ⟨h1, h2⟩ := hs
    simp only at h1 h2
    show wl_Qm_digestOfBlocks_70 mk (nI m) Q sp dS dL dR dF dP lS lL lR lF lP (n + 1) (nI 42 - 1) v S L T D M X
    rw [wl_Qm_digestOfBlocks_70]
    subst h1
    exact ⟨fun _ => hK _ _ _ _ _ _ h2, fun q => absurd (by decide) q⟩
  · obtain ⟨v, S, L, T, D, M, X⟩ := s
    obtain ⟨h1, h2⟩ := hs
    simp only at h1 h2
    show wl_Qm_digestOfBlocks_70 mk (nI m) Q sp dS dL dR dF dP lS lL lR lF lP (n + 1) (nI i - 1) v S L T D M X
    rw [wl_Qm_digestOfBlocks_70]
    refine ⟨fun q => ?_, fun _ => qs_shown h2 hm hg (vi_ok (by omega)) (fun S' L' T' D' M' X' h3 => ?_)⟩
    · rw [i_lt, sub1_t (by omega)] at q
      have : (40 : Int32).toInt = 40 := rfl
      omega
    · intro v2 ev2
      rw [vi_s]
      refine ih (v2, S', L', T', D', M', X') ⟨?_, h3⟩
      show v2 = mix (fo _ i h) _
      rw [ev2, h1]; rfl
theorem s_dB {mk : Nat → IA} {m : Nat} (hm : m < 4) (hg : g16 (mk m)) {sp dS dL dR dF lS lL lR lF sS sL : IA} {dP lP sT sD sM sX : Int32} {h : Int64} (hP : PartsOK dS dL dF dP) (hL : PartsOK lS lL lF lP) (hS : SignsOK sS sL sT sD sM sX) {Q : Int64 → IA → IA → IA → IA → IA → Int32 → IA → IA → IA → IA → Int32 → IA → IA → Int32 → Int32 → Int32 → Int32 → Prop} (hQ : ∀ sp' S L R F P S2 L2 R2 F2 P2 S3 L3 T D M X, PartsOK S L F P → PartsOK S2 L2 F2 P2 → SignsOK S3 L3 T D M X → Q (dBF (dk (mk m)) h) sp' S L R F P S2 L2 R2 F2 P2 S3 L3 T D M X) : wp_Qm_digestOfBlocks sp dS dL dR dF dP lS lL lR lF lP sS sL sT sD sM sX mk h (nI m) Q := by
  unfold wp_Qm_digestOfBlocks
  refine s_dB6 hm hg hS (fun S3 L3 T D M X hS3 => ?_)
  unfold wx_Qm_digestOfBlocks_35
  refine s_dB38 hm hg hP hL (fun sp' S L R F P S2 L2 R2 F2 P2 hP' hL' => ?_)
  unfold wx_Qm_digestOfBlocks_67
  exact s_dB70 hm hg hS3 (fun S4 L4 T4 D4 M4 X4 hS4 => hQ _ _ _ _ _ _ _ _ _ _ _ _ _ _ _ _ _ hP' hL' hS4)
theorem s_dC {mk : Nat → IA} {m : Nat} (hm : m < 4) (hg : g16 (mk m)) {dS dL dR dF : IA} {dP : Int32} {h : Int64} (hP : PartsOK dS dL dF dP) {Q : Int64 → IA → IA → IA → IA → Int32 → Prop} (hQ : ∀ S L R F P, PartsOK S L F P → Q (dCF (dk (mk m)) h) S L R F P) : wp_Qm_digestOfCells dS dL dR dF dP mk h (nI m) Q := by
  unfold wp_Qm_digestOfCells
  refine lp (fun n j (s : Int64 × IA × IA × IA × IA × Int32) => wl_Qm_digestOfCells_6 mk (nI m) Q n (nI (3 * j)) s.1 s.2.1 s.2.2.1 s.2.2.2.1 s.2.2.2.2.1 s.2.2.2.2.2) (fun j s => s.1 = fo2 (fun j => fo2 (fun i => mx4 (dk (mk m)) (5 * i) (3 * j)) 4) j h ∧ PartsOK s.2.1 s.2.2.1 s.2.2.2.2.1 s.2.2.2.2.2) 6 (h, dS, dL, dR, dF, dP) ⟨rfl, hP⟩ (fun n s hs => ?_) (fun n j s hj hs ih => ?_)
  · obtain ⟨v, S, L, R, F, P⟩ := s
    obtain ⟨h1, h2⟩ := hs
    simp only at h1 h2
    show wl_Qm_digestOfCells_6 mk (nI m) Q (n + 1) (nI (3 * 6)) v S L R F P
    rw [wl_Qm_digestOfCells_6]
    subst h1
    exact ⟨fun _ => hQ _ _ _ _ _ h2, fun q => absurd (by decide) q⟩
  · obtain ⟨v, S, L, R, F, P⟩ := s
    obtain ⟨h1, h2⟩ := hs
    simp only at h1 h2
    show wl_Qm_digestOfCells_6 mk (nI m) Q (n + 1) (nI (3 * j)) v S L R F P
    rw [wl_Qm_digestOfCells_6]
    refine ⟨fun q => absurd q (ge16 (by omega)), fun _ => ?_⟩
    refine lp (fun n2 i (s : Int64 × IA × IA × IA × IA × Int32) => wl_Qm_digestOfCells_16 mk (nI m) (nI (3 * j)) (fun (x7_2 : Int32) (x4_3 : Int64) (dS_3 : IA) (dL_3 : IA) (dR_3 : IA) (dF_3 : IA) (dP_3 : Int32) => (wl_Qm_digestOfCells_6 mk (nI m) Q n) (nI (3 * j) + 3) x4_3 dS_3 dL_3 dR_3 dF_3 dP_3) n2 (nI (5 * i)) s.1 s.2.1 s.2.2.1 s.2.2.2.1 s.2.2.2.2.1 s.2.2.2.2.2) (fun i s => s.1 = fo2 (fun i => mx4 (dk (mk m)) (5 * i) (3 * j)) i v ∧ PartsOK s.2.1 s.2.2.1 s.2.2.2.2.1 s.2.2.2.2.2) 4 (v, S, L, R, F, P) ⟨rfl, h2⟩ (fun n2 s hs => ?_) (fun n2 i s hi hs ih2 => ?_)
    · obtain ⟨v', S', L', R', F', P'⟩ := s
      obtain ⟨k1, k2⟩ := hs
      simp only at k1 k2
      show wl_Qm_digestOfCells_16 mk (nI m) (nI (3 * j)) _ (n2 + 1) (nI (5 * 4)) v' S' L' R' F' P'
      rw [wl_Qm_digestOfCells_16]
      refine ⟨fun _ => ?_, fun q => absurd (by decide) q⟩
      rw [show nI (3 * j) + 3 = nI (3 * (j + 1)) from nI_add (3 * j) 3]
      refine ih (v', S', L', R', F', P') ⟨?_, k2⟩
      show v' = fo2 (fun i => mx4 (dk (mk m)) (5 * i) (3 * j)) 4 (fo2 _ j h)
      rw [k1, h1]
    · obtain ⟨v', S', L', R', F', P'⟩ := s
      obtain ⟨k1, k2⟩ := hs
      simp only at k1 k2
      show wl_Qm_digestOfCells_16 mk (nI m) (nI (3 * j)) _ (n2 + 1) (nI (5 * i)) v' S' L' R' F' P'
      rw [wl_Qm_digestOfCells_16]
      have hx : 5 * i < 16 := by omega
      have hy : 3 * j < 16 := by omega
      refine ⟨fun q => absurd q (ge16 hx), fun _ => qs_cell hm hx hy ?_⟩
      intro a1 b1
      refine qs_blk hm hx hy (vp_in_nI (n := 2) (by omega) (by omega)) ?_
      intro a2 b2
      refine qs_label k2 hm hg hx hy (fun S2 L2 R2 F2 P2 hP2 => ?_)
      intro a3 b3
      refine qs_near hm hg hx hy ?_
      intro a4 b4
      rw [show nI (5 * i) + 5 = nI (5 * (i + 1)) from nI_add (5 * i) 5]
      refine ih2 (a4, S2, L2, R2, F2, P2) ⟨?_, hP2⟩
      show a4 = mx4 (dk (mk m)) (5 * i) (3 * j) (fo2 _ i v)
      rw [b4, b3, b2, b1, k1]; rfl
theorem s_dP {mk : Nat → IA} {m : Nat} (hm : m < 4) (hg : g16 (mk m)) {dS dL dR dF : IA} {dP : Int32} {h : Int64} (hP : PartsOK dS dL dF dP) {Q : Int64 → IA → IA → IA → IA → Int32 → Prop} (hQ : ∀ S L R F P, PartsOK S L F P → Q (dPF (dk (mk m)) h) S L R F P) : wp_Qm_digestOfParts dS dL dR dF dP mk h (nI m) Q := by
  unfold wp_Qm_digestOfParts
  refine lp (fun n j (s : Int64 × IA × IA × IA × IA × Int32) => wl_Qm_digestOfParts_6 mk (nI m) Q n (nI j) s.1 s.2.1 s.2.2.1 s.2.2.2.1 s.2.2.2.2.1 s.2.2.2.2.2) (fun j s => s.1 = fo2 (fun k => fo (fun w => partF (dk (mk m)) (nI k) w) 6) j h ∧ PartsOK s.2.1 s.2.2.1 s.2.2.2.2.1 s.2.2.2.2.2) 4 (h, dS, dL, dR, dF, dP) ⟨rfl, hP⟩ (fun n s hs => ?_) (fun n j s hj hs ih => ?_)
  · obtain ⟨v, S, L, R, F, P⟩ := s
    obtain ⟨h1, h2⟩ := hs
    simp only at h1 h2
    show wl_Qm_digestOfParts_6 mk (nI m) Q (n + 1) (nI 4) v S L R F P
    rw [wl_Qm_digestOfParts_6]
    subst h1
    exact ⟨fun _ => hQ _ _ _ _ _ h2, fun q => absurd lt4 q⟩
  · obtain ⟨v, S, L, R, F, P⟩ := s
    obtain ⟨h1, h2⟩ := hs
    simp only at h1 h2
    show wl_Qm_digestOfParts_6 mk (nI m) Q (n + 1) (nI j) v S L R F P
    rw [wl_Qm_digestOfParts_6]
    refine ⟨fun q => absurd q (nlt4 hj), fun _ => ?_⟩
    refine lp (fun n2 i (s : Int64 × IA × IA × IA × IA × Int32) => wl_Qm_digestOfParts_15 mk (nI m) (nI j) (fun (x7_2 : Int32) (x4_3 : Int64) (dS_3 : IA) (dL_3 : IA) (dR_3 : IA) (dF_3 : IA) (dP_3 : Int32) => (wl_Qm_digestOfParts_6 mk (nI m) Q n) (nI j + 1) x4_3 dS_3 dL_3 dR_3 dF_3 dP_3) n2 (nI i) s.1 s.2.1 s.2.2.1 s.2.2.2.1 s.2.2.2.2.1 s.2.2.2.2.2) (fun i s => s.1 = fo (fun w => partF (dk (mk m)) (nI j) w) i v ∧ PartsOK s.2.1 s.2.2.1 s.2.2.2.2.1 s.2.2.2.2.2) 6 (v, S, L, R, F, P) ⟨rfl, h2⟩ (fun n2 s hs => ?_) (fun n2 i s hi hs ih2 => ?_)
    · obtain ⟨v', S', L', R', F', P'⟩ := s
      obtain ⟨k1, k2⟩ := hs
      simp only at k1 k2
      show wl_Qm_digestOfParts_15 mk (nI m) (nI j) _ (n2 + 1) (nI 6) v' S' L' R' F' P'
      rw [wl_Qm_digestOfParts_15]
      refine ⟨fun _ => ?_, fun q => absurd (by decide) q⟩
      rw [nI_1]
      refine ih (v', S', L', R', F', P') ⟨?_, k2⟩
      show v' = fo (fun w => partF (dk (mk m)) (nI j) w) 6 (fo2 _ j h)
      rw [k1, h1]
    · obtain ⟨v', S', L', R', F', P'⟩ := s
      obtain ⟨k1, k2⟩ := hs
      simp only at k1 k2
      show wl_Qm_digestOfParts_15 mk (nI m) (nI j) _ (n2 + 1) (nI i) v' S' L' R' F' P'
      rw [wl_Qm_digestOfParts_15]
      refine ⟨fun q => absurd q (nI_ge (b := 6) hi (by omega)), fun _ => qs_part k2 hm hg hi (fun S2 L2 R2 F2 P2 hP2 => ?_)⟩
      intro a4 b4
      rw [nI_1 i]
      refine ih2 (a4, S2, L2, R2, F2, P2) ⟨?_, hP2⟩
      show a4 = mix (fo _ i v) _
      rw [b4, k1]; rfl
theorem s_dQ {mk : Nat → IA} {m : Nat} (hm : m < 4) (hg : ∀ m, m < 4 → g16 (mk m)) {h : Int64} {Q : Int64 → Prop} (hQ : Q (dQF (fun m => dk (mk m)) m h)) : wp_Qm_digestOfPairs mk h (nI m) Q := by
  unfold wp_Qm_digestOfPairs
  refine lp (fun n j (s : Int64) => wl_Qm_digestOfPairs_6 mk (nI m) Q n (nI j) s) (fun j s => s = fo2 (fun b => fo (fun w => bothF (dk (mk m)) (dk (mk b)) (nI w)) 4) j h) 4 h rfl (fun n v h1 => ?_) (fun n j v hj h1 ih => ?_)
  · rw [wl_Qm_digestOfPairs_6]
    subst h1
    exact ⟨fun _ => hQ, fun q => absurd le4 q⟩
  · rw [wl_Qm_digestOfPairs_6]
    refine ⟨fun q => absurd q (ge4 hj), fun _ => ?_⟩
    refine lp (fun n2 i (s : Int64) => wl_Qm_digestOfPairs_15 mk (nI m) (nI j) (fun (x7_2 : Int32) (x4_3 : Int64) => (wl_Qm_digestOfPairs_6 mk (nI m) Q n) (nI j + 1) x4_3) n2 (nI i) s) (fun i s => s = fo (fun w => bothF (dk (mk m)) (dk (mk j)) (nI w)) i v) 4 v rfl (fun n2 v' k1 => ?_) (fun n2 i v' hi k1 ih2 => ?_)
    · rw [wl_Qm_digestOfPairs_15]
      refine ⟨fun _ => ?_, fun q => absurd lt4 q⟩
      rw [nI_1]
      refine ih _ ?_
      rw [k1, h1]; rfl
    · rw [wl_Qm_digestOfPairs_15]
      refine ⟨fun q => absurd q (nlt4 hi), fun _ => qs_both hm hj (hg m hm) (hg j hj) (vp_in_nI hi (by omega)) ?_⟩
      intro a4 b4
      rw [nI_1 i]
      refine ih2 _ ?_
      rw [b4, k1]; rfl
theorem qs_digest {lf chK : Int32} {sp dS dL dR dF lS lL lR lF sS sL : IA} {dP lP sT sD sM sX : Int32} {mk : Nat → IA} (hg : ∀ m, m < 4 → g16 (mk m)) (hP : PartsOK dS dL dF dP) (hL : PartsOK lS lL lF lP) (hS : SignsOK sS sL sT sD sM sX) {Q : Int64 → IA → IA → IA → IA → IA → Int32 → IA → IA → IA → IA → Int32 → IA → IA → Int32 → Int32 → Int32 → Int32 → Prop} (hQ : ∀ sp' S L R F P S2 L2 R2 F2 P2 S3 L3 T D M X, PartsOK S L F P → PartsOK S2 L2 F2 P2 → SignsOK S3 L3 T D M X → Q (digF (fun m => dk (mk m)) chK lf) sp' S L R F P S2 L2 R2 F2 P2 S3 L3 T D M X) : wp_Qm_digest lf chK sp dS dL dR dF dP lS lL lR lF lP sS sL sT sD sM sX mk Q := by
  unfold wp_Qm_digest
  refine lp (fun n i (s : Int64 × (IA × IA × IA × IA × Int32) × (IA × IA × Int32 × Int32 × Int32 × Int32)) => wl_Qm_digest_6 lf chK mk (wx_Qm_digest_31 sp lS lL lR lF lP mk Q) n (nI i) s.1 s.2.1.1 s.2.1.2.1 s.2.1.2.2.1 s.2.1.2.2.2.1 s.2.1.2.2.2.2 s.2.2.1 s.2.2.2.1 s.2.2.2.2.1 s.2.2.2.2.2.1 s.2.2.2.2.2.2.1 s.2.2.2.2.2.2.2) (fun i s => s.1 = fo (fun i => countF (fun m => dk (mk m)) chK lf (nI i)) i 17 ∧ PartsOK s.2.1.1 s.2.1.2.1 s.2.1.2.2.2.1 s.2.1.2.2.2.2 ∧ SignsOK s.2.2.1 s.2.2.2.1 s.2.2.2.2.1 s.2.2.2.2.2.1 s.2.2.2.2.2.2.1 s.2.2.2.2.2.2.2) 8 (17, (dS, dL, dR, dF, dP), (sS, sL, sT, sD, sM, sX)) ⟨rfl, hP, hS⟩ (fun n s hs => ?_) (fun n i s hi hs ih => ?_)
  · obtain ⟨v, ⟨S, L, R, F, P⟩, ⟨S3, L3, T, D, M, X⟩⟩ := s
    obtain ⟨h1, h2, h3⟩ := hs
    simp only at h1 h2 h3
    show wl_Qm_digest_6 lf chK mk (wx_Qm_digest_31 sp lS lL lR lF lP mk Q) (n + 1) (nI 8) v S L R F P S3 L3 T D M X
    rw [wl_Qm_digest_6]
    refine ⟨fun _ => ?_, fun q => absurd (by decide) q⟩
    unfold wx_Qm_digest_31
    refine lp (fun n i (s : Int64 × (IA × IA × IA × IA × IA × Int32) × (IA × IA × IA × IA × Int32) × (IA × IA × Int32 × Int32 × Int32 × Int32)) => wl_Qm_digest_33 mk Q n (nI i) s.1 s.2.1.1 s.2.1.2.1 s.2.1.2.2.1 s.2.1.2.2.2.1 s.2.1.2.2.2.2.1 s.2.1.2.2.2.2.2 s.2.2.1.1 s.2.2.1.2.1 s.2.2.1.2.2.1 s.2.2.1.2.2.2.1 s.2.2.1.2.2.2.2 s.2.2.2.1 s.2.2.2.2.1 s.2.2.2.2.2.1 s.2.2.2.2.2.2.1 s.2.2.2.2.2.2.2.1 s.2.2.2.2.2.2.2.2) (fun i s => s.1 = fo2 (mskF (fun m => dk (mk m))) i v ∧ PartsOK s.2.1.2.1 s.2.1.2.2.1 s.2.1.2.2.2.2.1 s.2.1.2.2.2.2.2 ∧ PartsOK s.2.2.1.1 s.2.2.1.2.1 s.2.2.1.2.2.2.1 s.2.2.1.2.2.2.2 ∧ SignsOK s.2.2.2.1 s.2.2.2.2.1 s.2.2.2.2.2.1 s.2.2.2.2.2.2.1 s.2.2.2.2.2.2.2.1 s.2.2.2.2.2.2.2.2) 4 (v, (sp, S, L, R, F, P), (lS, lL, lR, lF, lP), (S3, L3, T, D, M, X)) ⟨rfl, h2, hL, h3⟩ (fun n s hs => ?_) (fun n i s hi hs ih => ?_)
    · obtain ⟨v', ⟨sp', S', L', R', F', P'⟩, ⟨S2', L2', R2', F2', P2'⟩, ⟨S3', L3', T', D', M', X'⟩⟩ := s
      obtain ⟨k1, k2, k3, k4⟩ := hs
      simp only at k1 k2 k3 k4
      show wl_Qm_digest_33 mk Q (n + 1) (nI 4) v' sp' S' L' R' F' P' S2' L2' R2' F2' P2' S3' L3' T' D' M' X'
      rw [wl_Qm_digest_33]
      refine ⟨fun _ => ?_, fun q => absurd le4 q⟩
      have e : v' = digF (fun m => dk (mk m)) chK lf := by rw [k1, h1]; rfl
      rw [e]
      exact hQ _ _ _ _ _ _ _ _ _ _ _ _ _ _ _ _ _ k2 k3 k4
    · obtain ⟨v', ⟨sp', S', L', R', F', P'⟩, ⟨S2', L2', R2', F2', P2'⟩, ⟨S3', L3', T', D', M', X'⟩⟩ := s
      obtain ⟨k1, k2, k3, k4⟩ := hs
      simp only at k1 k2 k3 k4
      show wl_Qm_digest_33 mk Q (n + 1) (nI i) v' sp' S' L' R' F' P' S2' L2' R2' F2' P2' S3' L3' T' D' M' X'
      rw [wl_Qm_digest_33]
      refine ⟨fun q => absurd q (ge4 hi), fun _ => ?_⟩
      refine s_dB hi (hg i hi) k2 k3 k4 (fun sp5 S5 L5 R5 F5 P5 S6 L6 R6 F6 P6 S7 L7 T7 D7 M7 X7 g1 g2 g3 => ?_)
      refine s_dC hi (hg i hi) g1 (fun S8 L8 R8 F8 P8 g4 => ?_)
      refine s_dP hi (hg i hi) g4 (fun S9 L9 R9 F9 P9 g5 => ?_)
      refine s_dQ hi hg ?_
      rw [nI_1]
      refine ih (mskF (fun m => dk (mk m)) i v', (sp5, S9, L9, R9, F9, P9), (S6, L6, R6, F6, P6), (S7, L7, T7, D7, M7, X7)) ⟨?_, g5, g2, g3⟩
      show mskF (fun m => dk (mk m)) i v' = fo2 (mskF (fun m => dk (mk m))) (i + 1) v
      rw [fo2_s, k1]
  · obtain ⟨v, ⟨S, L, R, F, P⟩, ⟨S3, L3, T, D, M, X⟩⟩ := s
    obtain ⟨h1, h2, h3⟩ := hs
    simp only at h1 h2 h3
    show wl_Qm_digest_6 lf chK mk (wx_Qm_digest_31 sp lS lL lR lF lP mk Q) (n + 1) (nI i) v S L R F P S3 L3 T D M X
    rw [wl_Qm_digest_6]
    refine ⟨fun q => absurd q (nI_nlt (a := 7) (b := i) (by omega) (by omega)), fun _ => qs_count h2 h3 hg (nI i) (fun S' L' R' F' P' S4 L4 T4 D4 M4 X4 g1 g2 => ?_)⟩
    intro a4 b4
    rw [nI_1]
    refine ih (a4, (S', L', R', F', P'), (S4, L4, T4, D4, M4, X4)) ⟨?_, g1, g2⟩
    show a4 = mix (fo _ i 17) _
    rw [b4, h1]; rfl
/-! the reference's -/
theorem t_dB6 {rows : IA} {m : Nat} (hm : m < 4) {h : Int64} {wX wY wS sg mn : IA} {ww sn : Int32} {K : Int32 → Int64 → IA → IA → IA → Int32 → IA → Int32 → IA → Prop} (hK : ∀ b1 b2 b3 b4 b5 b6 b7, K (nI 4) (fo (fun i => blocksF (dk (mg rows m)) (nI i)) 4 h) b1 b2 b3 b4 b5 b6 b7) : ∃ k, wl_Md_tellsMask_6 rows (nI m) K k 0 h wX wY wS ww sg sn mn := by
  refine lp (fun n i (s : Int64 × IA × IA × IA × Int32 × IA × Int32 × IA) => wl_Md_tellsMask_6 rows (nI m) K n (nI i) s.1 s.2.1 s.2.2.1 s.2.2.2.1 s.2.2.2.2.1 s.2.2.2.2.2.1 s.2.2.2.2.2.2.1 s.2.2.2.2.2.2.2) (fun i s => s.1 = fo (fun i => blocksF (dk (mg rows m)) (nI i)) i h) 4 (h, wX, wY, wS, ww, sg, sn, mn) rfl (fun n s h1 => ?_) (fun n i s hi h1 ih => ?_)
  · obtain ⟨v, b1, b2, b3, b4, b5, b6, b7⟩ := s
    simp only at h1
    show wl_Md_tellsMask_6 rows (nI m) K (n + 1) (nI 4) v b1 b2 b3 b4 b5 b6 b7
    rw [wl_Md_tellsMask_6]
    subst h1
    exact ⟨fun _ => hK _ _ _ _ _ _ _, fun q => absurd le4 q⟩
  · obtain ⟨v, b1, b2, b3, b4, b5, b6, b7⟩ := s
    simp only at h1
    show wl_Md_tellsMask_6 rows (nI m) K (n + 1) (nI i) v b1 b2 b3 b4 b5 b6 b7
    rw [wl_Md_tellsMask_6]
    refine ⟨fun q => absurd q (ge4 hi), fun _ => qt_blocks hm (vp_in_nI hi (by omega)) (fun c1 c2 c3 c4 c5 c6 c7 => ?_)⟩
    intro v2 ev2
    rw [nI_1]
    refine ih (v2, c1, c2, c3, c4, c5, c6, c7) ?_
    show v2 = mix (fo _ i h) _
    rw [ev2, h1]; rfl
theorem t_dB38 {rows : IA} {m : Nat} (hm : m < 4) {h : Int64} {label pile : IA} {parts : Int32} {K : Int32 → Int64 → IA → IA → Int32 → Prop} (hK : ∀ b1 b2 b3, K (nI 4) (fo (fun i => allF (dk (mg rows m)) (nI i)) 4 h) b1 b2 b3) : ∃ k, wl_Md_tellsMask_38 rows (nI m) K k 0 h label pile parts := by
  refine lp (fun n i (s : Int64 × IA × IA × Int32) => wl_Md_tellsMask_38 rows (nI m) K n (nI i) s.1 s.2.1 s.2.2.1 s.2.2.2) (fun i s => s.1 = fo (fun i => allF (dk (mg rows m)) (nI i)) i h) 4 (h, label, pile, parts) rfl (fun n s h1 => ?_) (fun n i s hi h1 ih => ?_)
  · obtain ⟨v, b1, b2, b3⟩ := s
    simp only at h1
    show wl_Md_tellsMask_38 rows (nI m) K (n + 1) (nI 4) v b1 b2 b3
    rw [wl_Md_tellsMask_38]
    subst h1
    exact ⟨fun _ => hK _ _ _, fun q => absurd le4 q⟩
  · obtain ⟨v, b1, b2, b3⟩ := s
    simp only at h1
    show wl_Md_tellsMask_38 rows (nI m) K (n + 1) (nI i) v b1 b2 b3
    rw [wl_Md_tellsMask_38]
    refine ⟨fun q => absurd q (ge4 hi), fun _ => qt_all hm (fun c1 c2 c3 => ?_)⟩
    intro v2 ev2
    rw [nI_1]
    refine ih (v2, c1, c2, c3) ?_
    show v2 = mix (fo _ i h) _
    rw [ev2, h1]; rfl
theorem t_dB75 {d : Nat → Nat → Bool} {sg : IA} {h : Int64} (hn : nums sg (sq d 4 0 0)) {K : Int32 → Int64 → Prop} (hK : ∀ v, K v (fo (fun i => shownF d (nI i - 1)) 42 h)) : ∃ k, wl_Md_tellsMask_75 sg (nI (sq d 4 0 0).length) K k (-1) h := by
  rw [show (-1 : Int32) = nI 0 - 1 by decide]
  refine lp (fun n i (s : Int64) => wl_Md_tellsMask_75 sg (nI (sq d 4 0 0).length) K n (nI i - 1) s) (fun i s => s = fo (fun i => shownF d (nI i - 1)) i h) 42 h rfl (fun n v h1 => ?_) (fun n i v hi h1 ih => ?_)
  · rw [wl_Md_tellsMask_75]
    subst h1
    exact ⟨fun _ => hK _, fun q => absurd (by decide) q⟩
  · rw [wl_Md_tellsMask_75]
    refine ⟨fun q => ?_, fun _ => qt_signBy hn (vi_ok (by omega)) ?_⟩
    · rw [i_le, sub1_t (by omega)] at q
      have : (41 : Int32).toInt = 41 := rfl
      omega
    · intro v2 ev2
      rw [vi_s]
      refine ih _ ?_
      rw [ev2, h1]; rfl
theorem t_dC {rows lab : IA} {m : Nat} (hm : m < 4) (hl : ∀ c, c < 256 → lab c = labC (dk (mg rows m)) c) {h : Int64} {K : Int32 → Int64 → Prop} (hK : ∀ v, K v (dCF (dk (mg rows m)) h)) : ∃ k, wl_Md_tellsMask_113 rows (nI m) lab K k 0 h := by
  refine lp (fun n j (s : Int64) => wl_Md_tellsMask_113 rows (nI m) lab K n (nI (3 * j)) s) (fun j s => s = fo2 (fun j => fo2 (fun i => mx4 (dk (mg rows m)) (5 * i) (3 * j)) 4) j h) 6 h rfl (fun n v h1 => ?_) (fun n j v hj h1 ih => ?_)
  · rw [wl_Md_tellsMask_113]
    subst h1
    exact ⟨fun _ => hK _, fun q => absurd (by decide) q⟩
  · rw [wl_Md_tellsMask_113]
    refine ⟨fun q => absurd q (ge16 (by omega)), fun _ => ?_⟩
    refine lp (fun n2 i (s : Int64) => wl_Md_tellsMask_123 rows (nI m) lab (nI (3 * j)) (fun (x7_6 : Int32) (x4_19 : Int64) => (wl_Md_tellsMask_113 rows (nI m) lab K n) (nI (3 * j) + 3) x4_19) n2 (nI (5 * i)) s) (fun i s => s = fo2 (fun i => mx4 (dk (mg rows m)) (5 * i) (3 * j)) i v) 4 v rfl (fun n2 v' k1 => ?_) (fun n2 i v' hi k1 ih2 => ?_)
    · rw [wl_Md_tellsMask_123]
      refine ⟨fun _ => ?_, fun q => absurd (by decide) q⟩
      rw [show nI (3 * j) + 3 = nI (3 * (j + 1)) from nI_add (3 * j) 3]
      refine ih _ ?_
      rw [k1, h1]; rfl
    · rw [wl_Md_tellsMask_123]
      have hx : 5 * i < 16 := by omega
      have hy : 3 * j < 16 := by omega
      refine ⟨fun q => absurd q (ge16 hx), fun _ => qt_cell hm hx hy ?_⟩
      intro a1 b1
      refine qt_block hm hx hy 2 ?_
      intro a2 b2
      have ec : (16 : Int32) * nI (3 * j) + nI (5 * i) = nI (16 * (3 * j) + 5 * i) := by
        rw [show (16 : Int32) = nI 16 from rfl, pk_mul, nI_add]
      rw [ec, clN (by omega), hl _ (by omega)]
      refine ⟨vp_in_nI (by omega) (by omega), ?_⟩
      intro a3 b3
      refine t_nearOf hm hx hy ?_
      intro a4 b4
      rw [show nI (5 * i) + 5 = nI (5 * (i + 1)) from nI_add (5 * i) 5]
      refine ih2 _ ?_
      rw [b4, b3, b2, b1, k1]; rfl
theorem t_dP {rows lab : IA} {m : Nat} (hm : m < 4) (hl : ∀ c, c < 256 → lab c = labC (dk (mg rows m)) c) (hn : partsN (dk (mg rows m)) ≤ 128) (hL : IsLab (dc (dk (mg rows m))) (labC (dk (mg rows m))) (partsN (dk (mg rows m)))) {h : Int64} {K : Int32 → Int64 → Prop} (hK : ∀ v, K v (dPF (dk (mg rows m)) h)) : ∃ k, wl_Md_tellsMask_226 rows (nI m) lab (nI (partsN (dk (mg rows m)))) K k 0 h := by
  refine lp (fun n j (s : Int64) => wl_Md_tellsMask_226 rows (nI m) lab (nI (partsN (dk (mg rows m)))) K n (nI j) s) (fun j s => s = fo2 (fun k => fo (fun w => partF (dk (mg rows m)) (nI k) w) 6) j h) 4 h rfl (fun n v h1 => ?_) (fun n j v hj h1 ih => ?_)
  · rw [wl_Md_tellsMask_226]
    subst h1
    exact ⟨fun _ => hK _, fun q => absurd le4 q⟩
  · rw [wl_Md_tellsMask_226]
    refine ⟨fun q => absurd q (ge4 hj), fun _ => ?_⟩
    refine lp (fun n2 i (s : Int64) => wl_Md_tellsMask_235 rows (nI m) lab (nI (partsN (dk (mg rows m)))) (nI j) (fun (x7_4 : Int32) (x4_16 : Int64) => (wl_Md_tellsMask_226 rows (nI m) lab (nI (partsN (dk (mg rows m)))) K n) (nI j + 1) x4_16) n2 (nI i) s) (fun i s => s = fo (fun w => partF (dk (mg rows m)) (nI j) w) i v) 6 v rfl (fun n2 v' k1 => ?_) (fun n2 i v' hi k1 ih2 => ?_)
    · rw [wl_Md_tellsMask_235]
      refine ⟨fun _ => ?_, fun q => absurd (by decide) q⟩
      rw [nI_1]
      refine ih _ ?_
      rw [k1, h1]; rfl
    · rw [wl_Md_tellsMask_235]
      refine ⟨fun q => absurd q (nI_ge (b := 6) hi (by omega)), fun _ => ?_⟩
      dsimp only [jn]
      have fin : ∀ t : Int32, t = partF (dk (mg rows m)) (nI j) i → wj_Md_tellsMask_271 (nI i) v' (wl_Md_tellsMask_235 rows (nI m) lab (nI (partsN (dk (mg rows m)))) (nI j) (fun (x7_4 : Int32) (x4_16 : Int64) => (wl_Md_tellsMask_226 rows (nI m) lab (nI (partsN (dk (mg rows m)))) K n) (nI j + 1) x4_16) n2) t := by
        intro t et
        unfold wj_Md_tellsMask_271
        intro a4 b4
        rw [nI_1 i]
        refine ih2 _ ?_
        rw [b4, k1, et]; rfl
      unfold partF at fin
      rw [n_t (by omega), clN (by omega)] at fin
      rw [nI_leI (by omega) (by omega)]
      refine ⟨fun q => fin _ ?_, fun q => ?_⟩
      · rw [if_neg (by omega)]
      · rw [if_pos (by omega)] at fin
        exact t_partBy hm hi hl hn hL (by omega) (fin _ rfl)
theorem t_dQ {rows : IA} {m : Nat} (hm : m < 4) {h : Int64} {Q : Int64 → IA → IA → Int32 → IA → IA → IA → Int32 → IA → Int32 → IA → Prop} {a1 a2 b1 b2 b3 b5 b7 : IA} {a3 b4 b6 : Int32} (hQ : Q (dQF (fun m => dk (mg rows m)) m h) a1 a2 a3 b1 b2 b3 b4 b5 b6 b7) : ∃ k, wl_Md_tellsMask_290 rows (nI m) Q b1 b2 b3 b4 b5 b6 b7 a1 a2 a3 k 0 h := by
  refine lp (fun n j (s : Int64) => wl_Md_tellsMask_290 rows (nI m) Q b1 b2 b3 b4 b5 b6 b7 a1 a2 a3 n (nI j) s) (fun j s => s = fo2 (fun b => fo (fun w => bothF (dk (mg rows m)) (dk (mg rows b)) (nI w)) 4) j h) 4 h rfl (fun n v h1 => ?_) (fun n j v hj h1 ih => ?_)
  · rw [wl_Md_tellsMask_290]
    subst h1
    exact ⟨fun _ => hQ, fun q => absurd le4 q⟩
  · rw [wl_Md_tellsMask_290]
    refine ⟨fun q => absurd q (ge4 hj), fun _ => ?_⟩
    refine lp (fun n2 i (s : Int64) => wl_Md_tellsMask_299 rows (nI m) (nI j) (fun (x7_2 : Int32) (x4_13 : Int64) => (wl_Md_tellsMask_290 rows (nI m) Q b1 b2 b3 b4 b5 b6 b7 a1 a2 a3 n) (nI j + 1) x4_13) n2 (nI i) s) (fun i s => s = fo (fun w => bothF (dk (mg rows m)) (dk (mg rows j)) (nI w)) i v) 4 v rfl (fun n2 v' k1 => ?_) (fun n2 i v' hi k1 ih2 => ?_)
    · rw [wl_Md_tellsMask_299]
      refine ⟨fun _ => ?_, fun q => absurd le4 q⟩
      rw [nI_1]
      refine ih _ ?_
      rw [k1, h1]; rfl
    · rw [wl_Md_tellsMask_299]
      refine ⟨fun q => absurd q (ge4 hi), fun _ => qt_both hm hj (nI i) ?_⟩
      intro a4 e4
      rw [nI_1 i]
      refine ih2 _ ?_
      rw [e4, k1]; rfl
theorem t_tells {rows label pile wX wY wS sg mn : IA} {parts ww sn : Int32} {m : Nat} (hm : m < 4) {h : Int64} {Q : Int64 → IA → IA → Int32 → IA → IA → IA → Int32 → IA → Int32 → IA → Prop} (hQ : ∀ a1 a2 a3 b1 b2 b3 b4 b5 b6 b7, Q (dQF (fun m => dk (mg rows m)) m (dPF (dk (mg rows m)) (dCF (dk (mg rows m)) (dBF (dk (mg rows m)) h)))) a1 a2 a3 b1 b2 b3 b4 b5 b6 b7) : wp_Md_tellsMask rows label pile parts wX wY wS ww sg sn mn h (nI m) Q := by
  unfold wp_Md_tellsMask
  refine t_dB6 hm (fun b1 b2 b3 b4 b5 b6 b7 => ?_)
  unfold wx_Md_tellsMask_35
  refine t_dB38 hm (fun a1 a2 a3 => ?_)
  unfold wx_Md_tellsMask_67
  refine t_shows hm (fun wX' wY' wS' ww' sg' mn' g1 g2 g3 g4 g5 => ?_)
  refine t_dB75 g1 (fun v => ?_)
  unfold wx_Md_tellsMask_104
  refine t_labF hm (fun lab pile' hl hn hL => ?_)
  refine t_dC hm hl (fun v2 => ?_)
  unfold wx_Md_tellsMask_223
  refine t_dP hm hl hn hL (fun v3 => ?_)
  unfold wx_Md_tellsMask_287
  exact t_dQ hm (hQ _ _ _ _ _ _ _ _ _ _)
theorem qt_digest {latest known : Int32} {rows label pile wX wY wS sg mn : IA} {parts ww sn : Int32} {Q : Int64 → IA → IA → Int32 → IA → IA → IA → Int32 → IA → Int32 → IA → Prop} (hQ : ∀ a1 a2 a3 b1 b2 b3 b4 b5 b6 b7, Q (digF (fun m => dk (mg rows m)) known latest) a1 a2 a3 b1 b2 b3 b4 b5 b6 b7) : wp_Md_digest latest rows known label pile parts wX wY wS ww sg sn mn Q := by
  unfold wp_Md_digest
  refine lp (fun n i (s : Int64 × (IA × IA × Int32) × (IA × IA × IA × Int32 × IA × Int32 × IA)) => wl_Md_digest_6 latest rows known (wx_Md_digest_31 rows Q) n (nI i) s.1 s.2.1.1 s.2.1.2.1 s.2.1.2.2 s.2.2.1 s.2.2.2.1 s.2.2.2.2.1 s.2.2.2.2.2.1 s.2.2.2.2.2.2.1 s.2.2.2.2.2.2.2.1 s.2.2.2.2.2.2.2.2) (fun i s => s.1 = fo (fun i => countF (fun m => dk (mg rows m)) known latest (nI i)) i 17) 8 (17, (label, pile, parts), (wX, wY, wS, ww, sg, sn, mn)) rfl (fun n s h1 => ?_) (fun n i s hi h1 ih => ?_)
  · obtain ⟨v, ⟨a1, a2, a3⟩, ⟨b1, b2, b3, b4, b5, b6, b7⟩⟩ := s
    simp only at h1
    show wl_Md_digest_6 latest rows known (wx_Md_digest_31 rows Q) (n + 1) (nI 8) v a1 a2 a3 b1 b2 b3 b4 b5 b6 b7
    rw [wl_Md_digest_6]
    refine ⟨fun _ => ?_, fun q => absurd (by decide) q⟩
    unfold wx_Md_digest_31
    refine lp (fun n i (s : Int64 × (IA × IA × Int32) × (IA × IA × IA × Int32 × IA × Int32 × IA)) => wl_Md_digest_33 rows Q n (nI i) s.1 s.2.1.1 s.2.1.2.1 s.2.1.2.2 s.2.2.1 s.2.2.2.1 s.2.2.2.2.1 s.2.2.2.2.2.1 s.2.2.2.2.2.2.1 s.2.2.2.2.2.2.2.1 s.2.2.2.2.2.2.2.2) (fun i s => s.1 = fo2 (mskF (fun m => dk (mg rows m))) i v) 4 (v, (a1, a2, a3), (b1, b2, b3, b4, b5, b6, b7)) rfl (fun n s k1 => ?_) (fun n i s hi k1 ih => ?_)
    · obtain ⟨v', ⟨c1, c2, c3⟩, ⟨e1, e2, e3, e4, e5, e6, e7⟩⟩ := s
      simp only at k1
      show wl_Md_digest_33 rows Q (n + 1) (nI 4) v' c1 c2 c3 e1 e2 e3 e4 e5 e6 e7
      rw [wl_Md_digest_33]
      refine ⟨fun _ => ?_, fun q => absurd le4 q⟩
      have e : v' = digF (fun m => dk (mg rows m)) known latest := by rw [k1, h1]; rfl
      rw [e]
      exact hQ _ _ _ _ _ _ _ _ _ _
    · obtain ⟨v', ⟨c1, c2, c3⟩, ⟨e1, e2, e3, e4, e5, e6, e7⟩⟩ := s
      simp only at k1
      show wl_Md_digest_33 rows Q (n + 1) (nI i) v' c1 c2 c3 e1 e2 e3 e4 e5 e6 e7
      rw [wl_Md_digest_33]
      refine ⟨fun q => absurd q (ge4 hi), fun _ => t_tells hi (fun p1 p2 p3 q1 q2 q3 q4 q5 q6 q7 => ?_)⟩
      rw [nI_1]
      refine ih (mskF (fun m => dk (mg rows m)) i v', (p1, p2, p3), (q1, q2, q3, q4, q5, q6, q7)) ?_
      show mskF (fun m => dk (mg rows m)) i v' = fo2 (mskF (fun m => dk (mg rows m))) (i + 1) v
      rw [fo2_s, k1]
  · obtain ⟨v, ⟨a1, a2, a3⟩, ⟨b1, b2, b3, b4, b5, b6, b7⟩⟩ := s
    simp only at h1
    show wl_Md_digest_6 latest rows known (wx_Md_digest_31 rows Q) (n + 1) (nI i) v a1 a2 a3 b1 b2 b3 b4 b5 b6 b7
    rw [wl_Md_digest_6]
    refine ⟨fun q => absurd q (nI_ge (b := 8) hi (by omega)), fun _ => qt_count (nI i) (fun p1 p2 p3 q1 q2 q3 q4 q5 q6 q7 => ?_)⟩
    intro a4 e4
    rw [nI_1]
    refine ih (a4, (p1, p2, p3), (q1, q2, q3, q4, q5, q6, q7)) ?_
    show a4 = mix (fo _ i 17) _
    rw [e4, h1]; rfl
theorem fo_eq {g g' : Nat → Int32} : ∀ n h, (∀ i, i < n → g i = g' i) → fo g n h = fo g' n h
  | 0, _, _ => rfl
  | n + 1, h, e => by
    show mix (fo g n h) (g n) = mix (fo g' n h) (g' n)
    rw [fo_eq n h (fun i hi => e i (by omega)), e n (by omega)]
theorem fo2_eq {F F' : Nat → Int64 → Int64} : ∀ n h, (∀ i, i < n → ∀ z, F i z = F' i z) → fo2 F n h = fo2 F' n h
  | 0, _, _ => rfl
  | n + 1, h, e => by
    show F n (fo2 F n h) = F' n (fo2 F' n h)
    rw [fo2_eq n h (fun i hi => e i (by omega)), e n (by omega)]
theorem dig_eq {D D' : Nat → Nat → Nat → Bool} (h : ∀ m, m < 4 → D m = D' m) (kn lf : Int32) : digF D kn lf = digF D' kn lf := by
  unfold digF
  rw [fo_eq 8 17 (fun i _ => count_eq h kn lf (nI i))]
  refine fo2_eq 4 _ (fun m hm z => ?_)
  unfold mskF
  rw [h m hm]
  unfold dQF
  refine fo2_eq 4 _ (fun b hb z2 => ?_)
  refine fo_eq 4 _ (fun w _ => ?_)
  rw [h m hm, h b hb]
