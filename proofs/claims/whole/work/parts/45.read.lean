/-! Reading signs. -/
def put (S : Nat → Nat → Bool) (s x y : Nat) (b : Bool) : Nat → Nat → Bool := fun X Y => if (x ≤ X ∧ X < x + s) ∧ (y ≤ Y ∧ Y < y + s) then b else S X Y
/-- one square read from k on: where the next begins, and what the cells are then -/
def rd (it : IA) (sz : Nat) : Nat → Nat → Nat → Nat → (Nat → Nat → Bool) → Option (Nat × (Nat → Nat → Bool))
  | 0, x, y, k, S => if k < sz then (if it k = 0 then some (k + 1, put S 1 x y false) else if it k = 1 then some (k + 1, put S 1 x y true) else none) else none
  | L + 1, x, y, k, S => if k < sz then (if it k = 0 then some (k + 1, put S (2 ^ (L + 1)) x y false) else if it k = 1 then some (k + 1, put S (2 ^ (L + 1)) x y true) else if it k = 2 then
      (rd it sz L x y (k + 1) S).bind (fun r1 => (rd it sz L (x + 2 ^ L) y r1.1 r1.2).bind (fun r2 => (rd it sz L x (y + 2 ^ L) r2.1 r2.2).bind (fun r3 => rd it sz L (x + 2 ^ L) (y + 2 ^ L) r3.1 r3.2))) else none) else none
theorem rd_end {it : IA} {sz L x y k : Nat} {S : Nat → Nat → Bool} (h : ¬ k < sz) : rd it sz L x y k S = none := by
  cases L with
  | zero => rw [rd, if_neg h]
  | succ L => rw [rd, if_neg h]
theorem rd_0 {it : IA} {sz L x y k : Nat} {S : Nat → Nat → Bool} (h : k < sz) (e : it k = 0) : rd it sz L x y k S = some (k + 1, put S (2 ^ L) x y false) := by
  cases L with
  | zero => rw [rd, if_pos h, if_pos e]
  | succ L => rw [rd, if_pos h, if_pos e]
theorem rd_1 {it : IA} {sz L x y k : Nat} {S : Nat → Nat → Bool} (h : k < sz) (e : it k = 1) : rd it sz L x y k S = some (k + 1, put S (2 ^ L) x y true) := by
  have e0 : ¬ it k = 0 := by rw [e]; decide
  cases L with
  | zero => rw [rd, if_pos h, if_neg e0, if_pos e]
  | succ L => rw [rd, if_pos h, if_neg e0, if_pos e]
theorem rd_x {it : IA} {sz L x y k : Nat} {S : Nat → Nat → Bool} (h : k < sz) (e0 : ¬ it k = 0) (e1 : ¬ it k = 1) (e2 : ¬ it k = 2 ∨ L = 0) : rd it sz L x y k S = none := by
  cases L with
  | zero => rw [rd, if_pos h, if_neg e0, if_neg e1]
  | succ L => rw [rd, if_pos h, if_neg e0, if_neg e1, if_neg (e2.resolve_right (by omega))]
theorem rd_2 {it : IA} {sz L x y k : Nat} {S : Nat → Nat → Bool} (h : k < sz) (e : it k = 2) : rd it sz (L + 1) x y k S = (rd it sz L x y (k + 1) S).bind (fun r1 => (rd it sz L (x + 2 ^ L) y r1.1 r1.2).bind (fun r2 => (rd it sz L x (y + 2 ^ L) r2.1 r2.2).bind (fun r3 => rd it sz L (x + 2 ^ L) (y + 2 ^ L) r3.1 r3.2))) := by
  rw [rd, if_pos h, if_neg (by rw [e]; decide), if_neg (by rw [e]; decide), if_pos e]
theorem rd_congr {it it2 : IA} {sz : Nat} (h : ∀ j, j < sz → it j = it2 j) : ∀ L x y k S, rd it sz L x y k S = rd it2 sz L x y k S
  | 0, x, y, k, S => by
    rw [rd, rd]
    by_cases q : k < sz
    · rw [h k q]
    · rw [if_neg q, if_neg q]
  | L + 1, x, y, k, S => by
    rw [rd, rd]
    by_cases q : k < sz
    · rw [h k q, rd_congr h L x y (k + 1) S]
      congr 4
      congr 1
      funext r1
      rw [rd_congr h L (x + 2 ^ L) y r1.1 r1.2]
      congr 1
      funext r2
      rw [rd_congr h L x (y + 2 ^ L) r2.1 r2.2]
      congr 1
      funext r3
      rw [rd_congr h L (x + 2 ^ L) (y + 2 ^ L) r3.1 r3.2]
    · rw [if_neg q, if_neg q]
theorem rd_cases (it : IA) (sz L x y k : Nat) (S : Nat → Nat → Bool) : rd it sz L x y k S = none ∨ ∃ k' S', rd it sz L x y k S = some (k', S') := by
  cases h : rd it sz L x y k S with
  | none => exact Or.inl rfl
  | some z => exact Or.inr ⟨z.1, z.2, rfl⟩
theorem rd_le {it : IA} {sz : Nat} : ∀ L x y k S k' S', rd it sz L x y k S = some (k', S') → k < k' ∧ k' ≤ sz := by
  intro L
  induction L with
  | zero =>
    intro x y k S k' S' h
    by_cases q : k < sz
    · by_cases e0 : it k = 0
      · rw [rd_0 q e0] at h
        cases h; omega
      · by_cases e1 : it k = 1
        · rw [rd_1 q e1] at h
          cases h; omega
        · rw [rd_x q e0 e1 (Or.inr rfl)] at h
          cases h
    · rw [rd_end q] at h
      cases h
  | succ L ih =>
    intro x y k S k' S' h
    by_cases q : k < sz
    · by_cases e0 : it k = 0
      · rw [rd_0 q e0] at h
        cases h; omega
      · by_cases e1 : it k = 1
        · rw [rd_1 q e1] at h
          cases h; omega
        · by_cases e2 : it k = 2
          · rw [rd_2 q e2] at h
            rcases rd_cases it sz L x y (k + 1) S with w | ⟨k1, S1, w1⟩
            · rw [w] at h; cases h
            · rw [w1] at h
              have h : (rd it sz L (x + 2 ^ L) y k1 S1).bind _ = _ := h
              rcases rd_cases it sz L (x + 2 ^ L) y k1 S1 with w | ⟨k2, S2, w2⟩
              · rw [w] at h; cases h
              · rw [w2] at h
                have h : (rd it sz L x (y + 2 ^ L) k2 S2).bind _ = _ := h
                rcases rd_cases it sz L x (y + 2 ^ L) k2 S2 with w | ⟨k3, S3, w3⟩
                · rw [w] at h; cases h
                · rw [w3] at h
                  have h : rd it sz L (x + 2 ^ L) (y + 2 ^ L) k3 S3 = _ := h
                  have b1 := ih _ _ _ _ _ _ w1
                  have b2 := ih _ _ _ _ _ _ w2
                  have b3 := ih _ _ _ _ _ _ w3
                  have b4 := ih _ _ _ _ _ _ h
                  omega
          · rw [rd_x q e0 e1 (Or.inl e2)] at h
            cases h
    · rw [rd_end q] at h
      cases h
def inSq (L x y X Y : Nat) : Prop := x ≤ X ∧ X < x + 2 ^ L ∧ y ≤ Y ∧ Y < y + 2 ^ L
/-- what is read doesn't hang on what was there -/
theorem rd_indep {it : IA} {sz : Nat} : ∀ L x y k S k' S' S2, rd it sz L x y k S = some (k', S') → ∃ S2', rd it sz L x y k S2 = some (k', S2') ∧ ∀ X Y, (inSq L x y X Y ∨ S X Y = S2 X Y) → S' X Y = S2' X Y := by
  have pp : ∀ (S S2 : Nat → Nat → Bool) (L x y : Nat) (b : Bool) (X Y : Nat), (inSq L x y X Y ∨ S X Y = S2 X Y) → put S (2 ^ L) x y b X Y = put S2 (2 ^ L) x y b X Y := by
    intro S S2 L x y b X Y h
    unfold put
    by_cases q : (x ≤ X ∧ X < x + 2 ^ L) ∧ y ≤ Y ∧ Y < y + 2 ^ L
    · rw [if_pos q, if_pos q]
    · rw [if_neg q, if_neg q]
      rcases h with h | h
      · exact absurd ⟨⟨h.1, h.2.1⟩, h.2.2.1, h.2.2.2⟩ q
      · exact h
  intro L
  induction L with
  | zero =>
    intro x y k S k' S' S2 h
    by_cases q : k < sz
    · by_cases e0 : it k = 0
      · rw [rd_0 q e0] at h
        cases h
        exact ⟨_, rd_0 q e0, pp S S2 0 x y false⟩
      · by_cases e1 : it k = 1
        · rw [rd_1 q e1] at h
          cases h
          exact ⟨_, rd_1 q e1, pp S S2 0 x y true⟩
        · rw [rd_x q e0 e1 (Or.inr rfl)] at h
          cases h
    · rw [rd_end q] at h
      cases h
  | succ L ih =>
    intro x y k S k' S' S2 h
    by_cases q : k < sz
    · by_cases e0 : it k = 0
      · rw [rd_0 q e0] at h
        cases h
        exact ⟨_, rd_0 q e0, pp S S2 (L + 1) x y false⟩
      · by_cases e1 : it k = 1
        · rw [rd_1 q e1] at h
          cases h
          exact ⟨_, rd_1 q e1, pp S S2 (L + 1) x y true⟩
        · by_cases e2 : it k = 2
          · rw [rd_2 q e2] at h ⊢
            rcases rd_cases it sz L x y (k + 1) S with w | ⟨k1, S1, w1⟩
            · rw [w] at h; cases h
            · rw [w1] at h
              have h : (rd it sz L (x + 2 ^ L) y k1 S1).bind _ = _ := h
              rcases rd_cases it sz L (x + 2 ^ L) y k1 S1 with w | ⟨k2, S2', w2⟩
              · rw [w] at h; cases h
              · rw [w2] at h
                have h : (rd it sz L x (y + 2 ^ L) k2 S2').bind _ = _ := h
                rcases rd_cases it sz L x (y + 2 ^ L) k2 S2' with w | ⟨k3, S3, w3⟩
                · rw [w] at h; cases h
                · rw [w3] at h
                  have h : rd it sz L (x + 2 ^ L) (y + 2 ^ L) k3 S3 = _ := h
                  obtain ⟨T1, a1, c1⟩ := ih _ _ _ _ _ _ S2 w1
                  obtain ⟨T2, a2, c2⟩ := ih _ _ _ _ _ _ T1 w2
                  obtain ⟨T3, a3, c3⟩ := ih _ _ _ _ _ _ T2 w3
                  obtain ⟨T4, a4, c4⟩ := ih _ _ _ _ _ _ T3 h
                  refine ⟨T4, ?_, fun X Y hXY => ?_⟩
                  · rw [a1]
                    show (rd it sz L (x + 2 ^ L) y k1 T1).bind _ = _
                    rw [a2]
                    show (rd it sz L x (y + 2 ^ L) k2 T2).bind _ = _
                    rw [a3]
                    exact a4
                  · have h2p : 2 ^ (L + 1) = 2 ^ L + 2 ^ L := by rw [Nat.pow_succ]; omega
                    unfold inSq at hXY c1 c2 c3 c4
                    rw [h2p] at hXY
                    rcases hXY with z | z
                    · by_cases zx : X < x + 2 ^ L
                      · by_cases zy : Y < y + 2 ^ L
                        · exact c4 X Y (Or.inr (c3 X Y (Or.inr (c2 X Y (Or.inr (c1 X Y (Or.inl (by omega))))))))
                        · exact c4 X Y (Or.inr (c3 X Y (Or.inl (by omega))))
                      · by_cases zy : Y < y + 2 ^ L
                        · exact c4 X Y (Or.inr (c3 X Y (Or.inr (c2 X Y (Or.inl (by omega))))))
                        · exact c4 X Y (Or.inl (by omega))
                    · exact c4 X Y (Or.inr (c3 X Y (Or.inr (c2 X Y (Or.inr (c1 X Y (Or.inr z)))))))
          · rw [rd_x q e0 e1 (Or.inl e2)] at h
            cases h
    · rw [rd_end q] at h
      cases h
/-- rows by their bits, whatever lies beyond -/
def rowsW (f : IA) (S : Nat → Nat → Bool) : Prop := ∀ Y, Y < 16 → ∀ X, X < 16 → bt (f Y) X = S X Y
def rw3 (f f' : IA) (S : Nat → Nat → Bool) (y h : Nat) : Prop := rowsW f' S ∧ (∀ Y, y ≤ Y → Y < y + h → r16 (f' Y)) ∧ ∀ Y, Y < 16 → r16 (f Y) → r16 (f' Y)
theorem s_paint2 {f : IA} {S : Nat → Nat → Bool} {x y w h : Nat} (hx : x < 16) (hy : y + h ≤ 16) (hw : w ≤ 16) (b : Bool) (hf : rowsW f S) {Q : IA → Prop}
    (hQ : ∀ f' : IA, rw3 f f' (fun X Y => if (x ≤ X ∧ X < x + w) ∧ (y ≤ Y ∧ Y < y + h) then b else S X Y) y h → Q f') : wp_Gr_paint f (nI x) (nI y) (nI w) (nI h) (if b then 1 else 0) Q := by
  unfold wp_Gr_paint
  intro m em
  obtain ⟨e, he⟩ : ∃ e, e = y + h := ⟨_, rfl⟩
  have hye : y ≤ e := by omega
  refine pk_loop (fun t i (s : IA) => wl_Gr_paint_12 (nI y) (nI h) (if b then 1 else 0) Q m t (nI i) s) (fun i s => y ≤ i ∧ ∀ Y, Y < 16 → s Y = if y ≤ Y ∧ Y < i then prow b (f Y) m else f Y) e y f hye ⟨Nat.le_refl _, fun Y _ => by rw [if_neg (by omega)]⟩ (fun t s hs => ?_) (fun t i s hi hs ih => ?_)
  · have fin : Q s := by
      refine hQ s ⟨fun Y hY X hX => ?_, fun Y hY1 hY2 => ?_, fun Y hY hr => ?_⟩
      · show bt (s Y) X = if (x ≤ X ∧ X < x + w) ∧ (y ≤ Y ∧ Y < y + h) then b else S X Y
        rw [hs.2 Y hY]
        by_cases q : y ≤ Y ∧ Y < e
        · rw [if_pos q, em, prow_bt hw hx hX, hf Y hY X hX]
          by_cases q2 : x ≤ X ∧ X < x + w
          · rw [if_pos q2, if_pos ⟨q2, by omega⟩]
          · rw [if_neg q2, if_neg (fun z => q2 z.1)]
        · rw [if_neg q, if_neg (fun z => q (by omega)), hf Y hY X hX]
      · rw [hs.2 Y (by omega), if_pos (by omega)]; exact r16_mask _
      · rw [hs.2 Y hY]
        by_cases q : y ≤ Y ∧ Y < e
        · rw [if_pos q]; exact r16_mask _
        · rw [if_neg q]; exact hr
    rw [wl_Gr_paint_12]
    refine ⟨fun _ => fin, fun q => ⟨fun _ => fin, fun q2 => ?_⟩⟩
    exfalso
    rw [nI_add] at q
    exact q (nI_le (by omega) (by omega))
  · rw [wl_Gr_paint_12]
    have hi16 : i < 16 := by omega
    refine ⟨fun q => ?_, fun _ => ⟨fun q => absurd q (ge16 hi16), fun _ => ?_⟩⟩
    · rw [nI_add] at q
      exact absurd q (nI_ge (by omega) (by omega))
    · have key : ∀ v, v &&& 65535 = prow b (f i) m → wj_Gr_paint_60 (nI i) s (wl_Gr_paint_12 (nI y) (nI h) (if b then 1 else 0) Q m t) v := by
        intro v ev
        unfold wj_Gr_paint_60
        rw [e_setRow, clN (by omega), nI_1, ev]
        refine ⟨fun _ => ih _ ⟨by omega, fun Y hY => ?_⟩, fun q => absurd (in16 hi16) q⟩
        by_cases q : Y = i
        · subst q; rw [pk_us, if_pos (by omega)]
        · rw [pk_un q, hs.2 Y hY]
          by_cases z : y ≤ Y ∧ Y < i
          · rw [if_pos z, if_pos (by omega)]
          · rw [if_neg z, if_neg (by omega)]
      have er : s i = f i := by rw [hs.2 i hi16, if_neg (by omega)]
      dsimp only [jn]
      refine ⟨fun q => ?_, fun q => ?_⟩
      · rw [e_row, clN (by omega), er]
        refine ⟨fun _ => key _ ?_, fun z => absurd (in16 hi16) z⟩
        unfold prow
        cases b
        · exact absurd q (by decide)
        · rfl
      · rw [e_row, clN (by omega), er]
        refine ⟨fun _ => key _ ?_, fun z => absurd (in16 hi16) z⟩
        unfold prow
        cases b
        · rfl
        · exact absurd rfl q
theorem rq_fail {it : IA} {l fo sz x y h : Int32} {f : IA} {n i : Nat} (hi : i ≤ 4) {Q : Int32 → IA → Prop} {REC : IA → Int32 → Int32 → Int32 → IA → Int32 → Int32 → Int32 → Int32 → (Int32 → IA → Prop) → Prop} (hQ : Q (-1) f) : wl_Qm_readSquare_73 it l fo sz x y Q REC h (n + 1) (nI i) (-1) f := by
  rw [wl_Qm_readSquare_73]
  exact ⟨fun _ => hQ, fun _ => ⟨fun _ => hQ, fun q => absurd rfl q⟩⟩
theorem rq_step {it : IA} {l fo sz : Int32} {f : IA} {x y h n k : Nat} {Q : Int32 → IA → Prop} {REC : IA → Int32 → Int32 → Int32 → IA → Int32 → Int32 → Int32 → Int32 → (Int32 → IA → Prop) → Prop} (i X' Y' : Nat) (hi : i < 4) (hk : k < 1000) (eX : X' = x + i % 2 * h) (eY : Y' = y + i / 2 * h)
    (hR : REC it l fo sz f (nI k) (nI X') (nI Y') (nI h) (fun r m => wl_Qm_readSquare_73 it l fo sz (nI x) (nI y) Q REC (nI h) n (nI (i + 1)) r m)) : wl_Qm_readSquare_73 it l fo sz (nI x) (nI y) Q REC (nI h) (n + 1) (nI i) (nI k) f := by
  rw [wl_Qm_readSquare_73]
  refine ⟨fun q => absurd q (nI_ge (b := 4) hi (by omega)), fun _ => ⟨fun q => absurd q (ne_m1 (by omega)), fun _ => ?_⟩⟩
  have e1 : nI x + jrem (nI i) 2 * nI h = nI X' := by
    rw [show jrem (nI i) 2 = nI (i % 2) from pk_rem (a := i) (d := 2) (by omega) (by omega) (by omega), pk_mul, nI_add, eX]
  have e2 : nI y + nI i / 2 * nI h = nI Y' := by
    rw [show nI i / 2 = nI (i / 2) from pk_div (a := i) (d := 2) (by omega) (by omega) (by omega), pk_mul, nI_add, eY]
  rw [e1, e2, nI_1]
  exact hR
theorem s_read (it : IA) {sz : Nat} (hsz : sz ≤ 60) (l fo : Int32) : ∀ L, L ≤ 4 → ∀ (x y k : Nat) (S : Nat → Nat → Bool) (f : IA) (Q : Int32 → IA → Prop), x + 2 ^ L ≤ 16 → y + 2 ^ L ≤ 16 → k ≤ 60 → rowsW f S →
    (∀ f', rd it sz L x y k S = none → Q (-1) f') → (∀ k' S' f', rd it sz L x y k S = some (k', S') → rw3 f f' S' y (2 ^ L) → Q (nI k') f') → wp_Qm_readSquare (L + 1) it l fo (nI sz) f (nI k) (nI x) (nI y) (nI (2 ^ L)) Q := by
  intro L
  induction L with
  | zero =>
    intro hL x y k S f Q hx hy hk hf hn hs
    show wb_Qm_readSquare (wp_Qm_readSquare 0) it l fo (nI sz) f (nI k) (nI x) (nI y) (nI (2 ^ 0)) Q
    unfold wb_Qm_readSquare
    rw [nI_ltI (by omega) (by omega)]
    refine ⟨fun q => ?_, fun q => hn f (rd_end q)⟩
    rw [e_item hsz q]
    dsimp only [jn]
    refine ⟨fun e0 => ?_, fun e0 => ⟨fun e1 => ?_, fun e1 => ⟨fun e2 => ⟨fun w => absurd w (by decide), fun _ => hn f (rd_x q e0 e1 (Or.inr rfl))⟩, fun e2 => hn f (rd_x q e0 e1 (Or.inr rfl))⟩⟩⟩
    · unfold wj_Qm_readSquare_28
      rw [nI_1, e0]
      exact s_paint2 (w := 2 ^ 0) (h := 2 ^ 0) (by omega) hy (by decide) false hf (fun f' h' => hs _ _ _ (rd_0 q e0) h')
    · unfold wj_Qm_readSquare_28
      rw [nI_1, e1]
      exact s_paint2 (w := 2 ^ 0) (h := 2 ^ 0) (by omega) hy (by decide) true hf (fun f' h' => hs _ _ _ (rd_1 q e1) h')
  | succ L ih =>
    intro hL x y k S f Q hx hy hk hf hn hs
    have hp2 := p2_lt hL
    have hpp := p2_pos L
    have h2p : 2 ^ (L + 1) = 2 ^ L + 2 ^ L := by rw [Nat.pow_succ]; omega
    show wb_Qm_readSquare (wp_Qm_readSquare (L + 1)) it l fo (nI sz) f (nI k) (nI x) (nI y) (nI (2 ^ (L + 1))) Q
    unfold wb_Qm_readSquare
    rw [nI_ltI (by omega) (by omega)]
    refine ⟨fun q => ?_, fun q => hn f (rd_end q)⟩
    rw [e_item hsz q]
    dsimp only [jn]
    refine ⟨fun e0 => ?_, fun e0 => ⟨fun e1 => ?_, fun e1 => ⟨fun e2 => ⟨fun _ x7 e7 x8 e8 => ?_, fun w => absurd (nI_lt (a := 1) (b := 2 ^ (L + 1)) (by omega) (by omega)) w⟩, fun e2 => hn f (rd_x q e0 e1 (Or.inl e2))⟩⟩⟩
    · unfold wj_Qm_readSquare_28
      rw [nI_1, e0]
      exact s_paint2 (by omega) hy hp2 false hf (fun f' h' => hs _ _ _ (rd_0 q e0) h')
    · unfold wj_Qm_readSquare_28
      rw [nI_1, e1]
      exact s_paint2 (by omega) hy hp2 true hf (fun f' h' => hs _ _ _ (rd_1 q e1) h')
    · have e7' : x7 = nI (2 ^ L) := by
        rw [e7, show nI (2 ^ (L + 1)) / 2 = nI (2 ^ (L + 1) / 2) from pk_div (a := 2 ^ (L + 1)) (d := 2) (by omega) (by omega) (by omega), show 2 ^ (L + 1) / 2 = 2 ^ L by omega]
      rw [nI_1] at e8
      clear e7
      subst e7'; subst e8
      have eR := @rd_2 it sz L x y k S q e2
      refine ⟨4 + 1, rq_step 0 x y (by omega) (by omega) (by simp) (by simp) ?_⟩
      refine ih (by omega) x y (k + 1) S f _ (by omega) (by omega) (by omega) hf (fun f' w => rq_fail (by omega) (hn f' ?_)) (fun k1 S1 f1 w1 hf1 => ?_)
      · rw [eR, w]; rfl
      · have b1 := rd_le _ _ _ _ _ _ _ w1
        rw [w1] at eR
        have eR : _ = (rd it sz L (x + 2 ^ L) y k1 S1).bind _ := eR
        refine rq_step 1 (x + 2 ^ L) y (by omega) (by omega) (by simp) (by simp) ?_
        refine ih (by omega) (x + 2 ^ L) y k1 S1 f1 _ (by omega) (by omega) (by omega) hf1.1 (fun f' w => rq_fail (by omega) (hn f' ?_)) (fun k2 S2 f2 w2 hf2 => ?_)
        · rw [eR, w]; rfl
        · have b2 := rd_le _ _ _ _ _ _ _ w2
          rw [w2] at eR
          have eR : _ = (rd it sz L x (y + 2 ^ L) k2 S2).bind _ := eR
          refine rq_step 2 x (y + 2 ^ L) (by omega) (by omega) (by simp) (by simp) ?_
          refine ih (by omega) x (y + 2 ^ L) k2 S2 f2 _ (by omega) (by omega) (by omega) hf2.1 (fun f' w => rq_fail (by omega) (hn f' ?_)) (fun k3 S3 f3 w3 hf3 => ?_)
          · rw [eR, w]; rfl
          · have b3 := rd_le _ _ _ _ _ _ _ w3
            rw [w3] at eR
            have eR : _ = rd it sz L (x + 2 ^ L) (y + 2 ^ L) k3 S3 := eR
            refine rq_step 3 (x + 2 ^ L) (y + 2 ^ L) (by omega) (by omega) (by simp) (by simp) ?_
            refine ih (by omega) (x + 2 ^ L) (y + 2 ^ L) k3 S3 f3 _ (by omega) (by omega) (by omega) hf3.1 (fun f' w => rq_fail (n := 0) (by omega) (hn f' ?_)) (fun k4 S4 f4 w4 hf4 => ?_)
            · rw [eR, w]
            · show wl_Qm_readSquare_73 it l fo (nI sz) (nI x) (nI y) Q (wp_Qm_readSquare (L + 1)) (nI (2 ^ L)) (0 + 1) (nI 4) (nI k4) f4
              rw [wl_Qm_readSquare_73]
              refine ⟨fun _ => hs k4 S4 f4 (by rw [eR, w4]) ⟨hf4.1, fun Y h1 h2 => ?_, fun Y h1 h2 => hf4.2.2 Y h1 (hf3.2.2 Y h1 (hf2.2.2 Y h1 (hf1.2.2 Y h1 h2)))⟩, fun w => absurd (by decide) w⟩
              rw [h2p] at h2
              by_cases z : Y < y + 2 ^ L
              · exact hf4.2.2 Y (by omega) (hf3.2.2 Y (by omega) (hf2.2.2 Y (by omega) (hf1.2.1 Y h1 z)))
              · exact hf4.2.2 Y (by omega) (hf3.2.1 Y (by omega) (by omega))
/-! the reference reads -/
theorem sq_ix {s i a b : Nat} (hs : s = 1 ∨ s = 2 ∨ s = 4 ∨ s = 8 ∨ s = 16) (ha : a < s) : (b * s + a = i ↔ a = i % s ∧ b = i / s) := by
  rcases hs with h | h | h | h | h <;> subst h <;> omega
theorem sq_bd {s i : Nat} (hs : s = 1 ∨ s = 2 ∨ s = 4 ∨ s = 8 ∨ s = 16) (hi : i < s * s) : i % s < s ∧ i / s < s := by
  rcases hs with h | h | h | h | h <;> subst h <;> omega
theorem sq_all {s a b : Nat} (hs : s = 1 ∨ s = 2 ∨ s = 4 ∨ s = 8 ∨ s = 16) (ha : a < s) (hb : b < s) : b * s + a < s * s := by
  rcases hs with h | h | h | h | h <;> subst h <;> omega
theorem p2_cases {L : Nat} (h : L ≤ 4) : 2 ^ L = 1 ∨ 2 ^ L = 2 ∨ 2 ^ L = 4 ∨ 2 ^ L = 8 ∨ 2 ^ L = 16 := by
  have : L = 0 ∨ L = 1 ∨ L = 2 ∨ L = 3 ∨ L = 4 := by omega
  rcases this with h | h | h | h | h <;> subst h <;> decide
theorem t_paintL {fresh : IA} {S : Nat → Nat → Bool} {s x y : Nat} (hs : s = 1 ∨ s = 2 ∨ s = 4 ∨ s = 8 ∨ s = 16) (hx : x + s ≤ 16) (hy : y + s ≤ 16) (b : Bool) (hf : rowsS fresh S) {K : Int32 → IA → Prop} (hK : ∀ (v : Int32) (f' : IA), rowsS f' (put S s x y b) → K v f') : ∃ n, wl_Md_takes_143 (nI x) (nI y) (nI s) (if b then 1 else 0) K n 0 fresh := by
  have hs16 : 0 < s ∧ s ≤ 16 := by omega
  have hss : s * s ≤ 256 := by rcases hs with h | h | h | h | h <;> subst h <;> decide
  have h2 : ¬ (2 : Int32) ≤ (if b then 1 else 0) := by cases b <;> decide
  refine lp (fun n i (g : IA) => wl_Md_takes_143 (nI x) (nI y) (nI s) (if b then 1 else 0) K n (nI i) g) (fun i g => rowsS g (fun X Y => if ((x ≤ X ∧ X < x + s) ∧ (y ≤ Y ∧ Y < y + s)) ∧ (Y - y) * s + (X - x) < i then b else S X Y)) (s * s) fresh (rowsS_congr hf (fun X Y _ _ => by rw [if_neg (by omega)])) (fun n g h => ?_) (fun n i g hi h ih => ?_)
  · rw [wl_Md_takes_143, pk_mul]
    refine ⟨fun _ => hK _ g (rowsS_congr h (fun X Y _ _ => ?_)), fun q => absurd (nI_le (Nat.le_refl _) (by omega)) q⟩
    unfold put
    by_cases q : (x ≤ X ∧ X < x + s) ∧ (y ≤ Y ∧ Y < y + s)
    · rw [if_pos q, if_pos ⟨q, sq_all hs (by omega) (by omega)⟩]
    · rw [if_neg q, if_neg (fun w => q w.1)]
  · rw [wl_Md_takes_143, pk_mul]
    refine ⟨fun q => absurd q (nI_ge hi (by omega)), fun _ => ⟨fun q => absurd q h2, fun _ => ⟨nI_ne0 hs16.1 (by omega), nI_ne0 hs16.1 (by omega), ?_⟩⟩⟩
    have hb := sq_bd hs hi
    rw [show jrem (nI i) (nI s) = nI (i % s) from pk_rem (a := i) (d := s) (by omega) (by omega) (by omega), pk_div (a := i) (d := s) (by omega) (by omega) (by omega), nI_add, nI_add, e_sets g (by omega) (by omega), nI_1]
    have ei : ∀ a b, a < s → (b * s + a = i ↔ a = i % s ∧ b = i / s) := fun a b ha => sq_ix hs ha
    generalize i % s = ri at ei hb ⊢
    generalize i / s = qi at ei hb ⊢
    refine ih _ ⟨setb_g16 (by omega) _ h.1, fun Y hY X hX => ?_⟩
    rw [setb_bt g (by omega) _ (by omega), h.2 Y hY X hX]
    dsimp only
    by_cases q : (x ≤ X ∧ X < x + s) ∧ (y ≤ Y ∧ Y < y + s)
    · have ei := ei (X - x) (Y - y) (by omega)
      by_cases w : (Y - y) * s + (X - x) = i
      · have w2 := ei.mp w
        rw [if_pos (by omega), if_pos ⟨q, by omega⟩]
      · have w2 : ¬ (X - x = ri ∧ Y - y = qi) := fun z => w (ei.mpr z)
        rw [if_neg (by omega)]
        by_cases z : (Y - y) * s + (X - x) < i
        · rw [if_pos ⟨q, z⟩, if_pos ⟨q, by omega⟩]
        · rw [if_neg (fun u => z u.2), if_neg (fun u => by omega)]
    · rw [if_neg (by omega), if_neg (fun u => q u.1), if_neg (fun u => q u.1)]
def rdl (it : IA) (sz : Nat) : List (Nat × Nat × Nat) → Nat → (Nat → Nat → Bool) → Option (Nat × (Nat → Nat → Bool))
  | [], k, S => some (k, S)
  | q :: r, k, S => (rd it sz q.1 q.2.1 q.2.2 k S).bind (fun z => rdl it sz r z.1 z.2)
theorem t_takesL {sizes items : IA} {s sz : Nat} (hs : s < 4) (hz : sizes s = nI sz) (hsz : sz ≤ 60) {Q : Int32 → IA → IA → IA → IA → Int32 → Prop} : ∀ (N : Nat) (st : List (Nat × Nat × Nat)) (w k : Nat) (S : Nat → Nat → Bool) (fresh wX wY wS : IA), stk wX wY wS w st → sz - k ≤ N → k ≤ sz → rowsS fresh S →
    (∀ f' aX aY aS ww, rdl (fun j => items (60 * s + j)) sz st k S = none → Q (-1) f' aX aY aS ww) → (∀ k' S' f' aX aY aS ww, rdl (fun j => items (60 * s + j)) sz st k S = some (k', S') → rowsS f' S' → Q (nI k') f' aX aY aS ww) →
    wl_Md_takes_19 sizes items (nI s) Q (N + 1) (nI k) fresh wX wY wS (nI w) := by
  intro N
  induction N with
  | zero =>
    intro st w k S fresh wX wY wS hst hN hk hf hn hsm
    cases st with
    | nil =>
      have hw : w = 0 := hst
      subst hw
      rw [wl_Md_takes_19]
      exact ⟨fun _ => hsm k S fresh _ _ _ _ rfl hf, fun q => absurd (by decide) q⟩
    | cons q r =>
      obtain ⟨v, hv, hb, hx, hy, e1, e2, e3, hr⟩ := hst
      subst hv
      rw [wl_Md_takes_19]
      refine ⟨fun q => absurd q (nI_nle (by omega) (by omega)), fun _ vv evv => ?_⟩
      rw [nI_pred] at evv
      subst evv
      rw [clN (by omega), clN (by omega)]
      refine ⟨vp_in_nI (by omega) (by omega), fun xx exx => ⟨vp_in_nI (by omega) (by omega), fun yy eyy => ⟨vp_in_nI (by omega) (by omega), fun zz ezz => ⟨vp_in_nI hs (by omega), ?_⟩⟩⟩⟩
      dsimp only [jn]
      rw [hz, nI_leI (by omega) (by omega)]
      refine ⟨fun _ => ?_, fun w => absurd (show sz ≤ k by omega) w⟩
      unfold wj_Md_takes_93
      rw [f_i2, brB (by rw [vin, i1z]; omega), br0]
      refine hn _ _ _ _ _ ?_
      show (rd _ sz _ _ _ k S).bind _ = none
      rw [rd_end (by omega)]
      rfl
  | succ N ih =>
    intro st w k S fresh wX wY wS hst hN hk hf hn hsm
    cases st with
    | nil =>
      have hw : w = 0 := hst
      subst hw
      rw [wl_Md_takes_19]
      exact ⟨fun _ => hsm k S fresh _ _ _ _ rfl hf, fun q => absurd (by decide) q⟩
    | cons q r =>
      obtain ⟨L, x, y⟩ := q
      obtain ⟨v, hv, hb, hx, hy, e1, e2, e3, hr⟩ := hst
      simp only at hb hx hy e1 e2 e3
      subst hv
      have hpp := p2_pos L
      have eR : rdl (fun j => items (60 * s + j)) sz ((L, x, y) :: r) k S = (rd (fun j => items (60 * s + j)) sz L x y k S).bind (fun z => rdl (fun j => items (60 * s + j)) sz r z.1 z.2) := rfl
      rw [eR] at hn hsm
      rw [wl_Md_takes_19]
      refine ⟨fun q => absurd q (nI_nle (by omega) (by omega)), fun _ vv evv => ?_⟩
      rw [nI_pred] at evv
      subst evv
      rw [clN (by omega), clN (by omega), e1, e2, e3]
      refine ⟨vp_in_nI (by omega) (by omega), fun xx exx => ⟨vp_in_nI (by omega) (by omega), fun yy eyy => ⟨vp_in_nI (by omega) (by omega), fun zz ezz => ⟨vp_in_nI hs (by omega), ?_⟩⟩⟩⟩
      subst exx; subst eyy; subst ezz
      dsimp only [jn]
      rw [hz, nI_leI (by omega) (by omega), ix240, clN (by omega)]
      refine ⟨fun w => ?_, fun w => ⟨vp_in_nI (by omega) (by omega), ?_⟩⟩
      · unfold wj_Md_takes_93
        rw [f_i2, brB (by rw [vin, i1z]; omega), br0]
        refine hn _ _ _ _ _ ?_
        rw [rd_end (by omega)]
        rfl
      · have hksz : k < sz := by omega
        unfold wj_Md_takes_93
        rw [f_i2]
        refine ⟨fun w3 => ?_, fun w3 => ?_⟩
        · rw [br1]
          dsimp only [jn]
          have leaf : ∀ b : Bool, items (60 * s + k) = (if b then 1 else 0) → rd (fun j => items (60 * s + j)) sz L x y k S = some (k + 1, put S (2 ^ L) x y b) → wj_Md_takes_122 (nI k) fresh wX wY wS (wl_Md_takes_19 sizes items (nI s) Q (N + 1)) (nI v) (nI x) (nI y) (nI (2 ^ L)) (items (60 * s + k)) := by
            intro b eb er
            unfold wj_Md_takes_122
            dsimp only [jn]
            rw [eb, brB (show ¬ (if b then (1 : Int32) else 0) = 2 by cases b <;> decide)]
            unfold wj_Md_takes_140
            rw [nI_1]
            rw [er] at hn hsm
            refine t_paintL (p2_cases (by omega)) hx hy b hf (fun _ f' hf' => ?_)
            exact ih r v (k + 1) (put S (2 ^ L) x y b) f' wX wY wS hr (by omega) (by omega) hf' hn hsm
          by_cases c0 : items (60 * s + k) = 0
          · refine ⟨fun c => ?_, fun _ => leaf false c0 (rd_0 hksz c0)⟩
            rw [c0] at c
            exact absurd c (by decide)
          · by_cases c1 : items (60 * s + k) = 1
            · refine ⟨fun c => ?_, fun _ => leaf true c1 (rd_1 hksz c1)⟩
              rw [c1] at c
              exact absurd c (by decide)
            · refine ⟨fun c2 => ⟨fun c3 => ?_, fun c3 => ?_⟩, fun c2 => ?_⟩
              · have hL0 : L = 0 := by
                  have h1 : 2 ^ L = 1 := (nI_eq (a := 2 ^ L) (b := 1) (by have := p2_lt (L := L) (by omega); omega) (by omega)).mp c3
                  cases L with
                  | zero => rfl
                  | succ L =>
                    have := p2_pos L
                    rw [Nat.pow_succ] at h1
                    omega
                refine hn _ _ _ _ _ ?_
                rw [rd_x hksz c0 c1 (Or.inr hL0)]
                rfl
              · cases L with
                | zero => exact absurd rfl c3
                | succ L =>
                  rw [rd_2 hksz c2] at hn hsm
                  unfold wj_Md_takes_122
                  dsimp only [jn]
                  rw [c2, brA rfl]
                  refine t_quarters (by omega) (by omega) (fun wX' wY' wS' hpu => ?_)
                  unfold wj_Md_takes_140
                  refine ⟨0 + 1, ?_⟩
                  rw [wl_Md_takes_143, nI_1]
                  have go : wl_Md_takes_19 sizes items (nI s) Q (N + 1) (nI (k + 1)) fresh wX' wY' wS' (nI (v + 4)) := by
                    refine ih _ (v + 4) (k + 1) S fresh wX' wY' wS' (stk_push hr hb hx hy hpu) (by omega) (by omega) hf (fun f' aX aY aS ww h => hn f' aX aY aS ww ?_) (fun k' S' f' aX aY aS ww h hS' => hsm k' S' f' aX aY aS ww ?_ hS')
                    · rw [← h]
                      simp only [rdl, Option.bind_assoc]
                    · rw [← h]
                      simp only [rdl, Option.bind_assoc]
                  exact ⟨fun _ => go, fun _ => ⟨fun _ => go, fun w => absurd (by decide) w⟩⟩
              · exfalso
                obtain ⟨t, ht, et⟩ := vp_in_of w3 (by omega)
                rw [et] at c0 c1 c2
                have : t = 0 ∨ t = 1 ∨ t = 2 := by omega
                rcases this with z | z | z
                · subst z; exact c0 rfl
                · subst z; exact c1 rfl
                · subst z; exact c2 rfl
        · rw [br0]
          refine hn _ _ _ _ _ ?_
          have n0 : ¬ items (60 * s + k) = 0 := fun z => w3 (by rw [z]; exact vp_in_nI (n := 0) (by omega) (by omega))
          have n1 : ¬ items (60 * s + k) = 1 := fun z => w3 (by rw [z]; exact vp_in_nI (n := 1) (by omega) (by omega))
          have n2 : ¬ items (60 * s + k) = 2 := fun z => w3 (by rw [z]; exact vp_in_nI (n := 2) (by omega) (by omega))
          rw [rd_x hksz n0 n1 (Or.inl n2)]
          rfl
