/-! The reference's floods. -/
def pb (f : IA) (b : Bool) (c : Nat) : Bool := decide (c < 256) && (dk f (c % 16) (c / 16) == b)
theorem pb_in {f : IA} {b : Bool} {c : Nat} (h : c < 256) : pb f b c = (dk f (c % 16) (c / 16) == b) := by
  unfold pb
  rw [decide_eq_true h, Bool.true_and]
/-- while the reference floods: h cells lie on the pile, q were taken off it, c0 is at work -/
def FI (p : Nat → Bool) (lab0 : IA) (n r : Nat) (lab pile : IA) (h q c0 : Nat) (H : Nat → Prop) : Prop :=
  (∀ c, c < 256 → lab c = lab0 c ∨ (lab0 c = (-1) ∧ lab c = nI n ∧ p c = true ∧ Conn p r c)) ∧
  (∀ j, j < h → ∃ c, c < 256 ∧ pile j = nI c ∧ lab c = nI n ∧ lab0 c = (-1)) ∧
  (∀ c, c < 256 → lab c = nI n → (∃ j, j < h ∧ pile j = nI c) ∨ (∀ c', adj c c' → p c' = true → lab c' ≠ (-1)) ∨ c = c0) ∧
  h + q = fb_ct (fun c => decide (lab c = nI n)) 256 ∧
  lab r = nI n ∧
  (∀ c', H c' → p c' = true → lab c' ≠ (-1))
theorem FI_H {p : Nat → Bool} {lab0 lab pile : IA} {n r h q c0 : Nat} {H H' : Nat → Prop} (hF : FI p lab0 n r lab pile h q c0 H) (hH : ∀ c', H' c' → p c' = true → lab c' ≠ (-1)) : FI p lab0 n r lab pile h q c0 H' :=
  ⟨hF.1, hF.2.1, hF.2.2.1, hF.2.2.2.1, hF.2.2.2.2.1, hH⟩
theorem FI_add {p : Nat → Bool} {lab0 lab pile : IA} {n r h q c0 c : Nat} {H : Nat → Prop} (hn : n < 128) (hq : 0 < q) (hF : FI p lab0 n r lab pile h q c0 H) (hc : c < 256) (hl : lab c = (-1)) (hp : p c = true) (hcn : Conn p r c) : h < 256 ∧ FI p lab0 n r (upd lab c (nI n)) (upd pile h (nI c)) (h + 1) q c0 (fun c' => H c' ∨ c' = c) := by
  obtain ⟨h1, h2, h3, h4, h5, h6⟩ := hF
  have nm : ¬ nI n = (-1) := nI_m1 (by omega)
  have ln : lab c ≠ nI n := by rw [hl]; exact fun w => nm w.symm
  have l0 : lab0 c = (-1) := by
    rcases h1 c hc with w | ⟨_, w, _⟩
    · rw [← w]; exact hl
    · exact absurd w ln
  have hct := ct_put hc ln
  have hle := fb_ct_le (fun k => decide (upd lab c (nI n) k = nI n)) 256
  have mono : ∀ x, lab x ≠ (-1) → upd lab c (nI n) x ≠ (-1) := by
    intro x hx
    by_cases z : x = c
    · subst z; rw [pk_us]; exact nm
    · rw [pk_un z]; exact hx
  refine ⟨by omega, fun x hx => ?_, fun j hj => ?_, fun x hx e1 => ?_, by rw [hct, ← h4]; omega, ?_, fun x hx hpx => ?_⟩
  · by_cases z : x = c
    · subst z; rw [pk_us]; exact Or.inr ⟨l0, rfl, hp, hcn⟩
    · rw [pk_un z]; exact h1 x hx
  · by_cases z : j = h
    · subst z; exact ⟨c, hc, pk_us, pk_us, l0⟩
    · obtain ⟨x, a1, a2, a3, a4⟩ := h2 j (by omega)
      refine ⟨x, a1, by rw [pk_un z]; exact a2, ?_, a4⟩
      by_cases w : x = c
      · subst w; exact pk_us
      · rw [pk_un w]; exact a3
  · by_cases z : x = c
    · subst z; exact Or.inl ⟨h, by omega, pk_us⟩
    · rw [pk_un z] at e1
      rcases h3 x hx e1 with ⟨j, a1, a2⟩ | w | w
      · exact Or.inl ⟨j, by omega, by rw [pk_un (by omega)]; exact a2⟩
      · exact Or.inr (Or.inl (fun c' ha hpc => mono _ (w c' ha hpc)))
      · exact Or.inr (Or.inr w)
  · by_cases z : r = c
    · subst z; exact pk_us
    · rw [pk_un z]; exact h5
  · rcases hx with w | w
    · exact mono _ (h6 x w hpx)
    · subst w; rw [pk_us]; exact nm
theorem t_way {rows lab0 lab pile : IA} {m n r h q c0 : Nat} {b : Bool} {H : Nat → Prop} {X t2 x6 : Int32} {xz yz : Int} (hm : m < 4) (hn : n < 128) (hq : 0 < q) (hc0 : c0 < 256) (hF : FI (pb (mg rows m) b) lab0 n r lab pile h q c0 H) (eX : X.toInt = xz) (eY : (nI (c0 / 16) + t2).toInt = yz) (hcon : ∀ c : Nat, c < 256 → xz = ((c % 16 : Nat) : Int) → yz = ((c / 16 : Nat) : Int) → pb (mg rows m) b c = true → Conn (pb (mg rows m) b) r c) {Kh : Int32 → Int32 → IA → IA → Prop}
    (hK : ∀ lab' pile' h', FI (pb (mg rows m) b) lab0 n r lab' pile' h' q c0 (fun c => H c ∨ (c < 256 ∧ xz = ((c % 16 : Nat) : Int) ∧ yz = ((c / 16 : Nat) : Int))) → Kh (x6 + 1) (nI h') lab' pile') : wj_Md_floods_100 rows (nI n) (nI m) (if b then 1 else 0) (nI c0) x6 (nI h) lab pile Kh X t2 := by
  unfold wj_Md_floods_100
  rw [d16d hc0]
  intro x8 e8
  rw [← e8] at eY
  rw [f_isCell, vin, vin, eX, eY]
  dsimp only [jn]
  refine ⟨fun hin => ?_, fun hout => ?_⟩
  · rw [br1]
    obtain ⟨x, hx, rfl⟩ := vp_in_of (x := X) (n := 16) (by rw [vin, eX]; omega) (by omega)
    obtain ⟨y, hy, rfl⟩ := vp_in_of (x := x8) (n := 16) (by rw [vin, eY]; omega) (by omega)
    rw [n_t (by omega)] at eX eY
    have ec : (16 : Int32) * nI y + nI x = nI (16 * y + x) := by
      rw [show (16 : Int32) = nI 16 from rfl, pk_mul, nI_add]
    have hc : 16 * y + x < 256 := by omega
    have m1 : (16 * y + x) % 16 = x := by omega
    have m2 : (16 * y + x) / 16 = y := by omega
    rw [ec, clN (by omega), e_darkN rows hm hx hy]
    refine ⟨vp_in_nI hc (by omega), fun hl => ⟨fun e2 => ?_, fun e2 => ?_⟩, fun hl => ?_⟩
    · have hp : pb (mg rows m) b (16 * y + x) = true := by
        rw [pb_in hc, m1, m2]
        cases hd : dk (mg rows m) x y <;> rw [hd] at e2 <;> cases b
        · rfl
        · exact absurd e2 (by decide)
        · exact absurd e2 (by decide)
        · rfl
      have hcn := hcon (16 * y + x) hc (by rw [m1]; exact eX.symm) (by rw [m2]; exact eY.symm) hp
      obtain ⟨hh, hA⟩ := FI_add hn hq hF hc hl hp hcn
      rw [clN (by omega)]
      refine ⟨vp_in_nI hc (by omega), fun l1 el1 => ⟨vp_in_nI hh (by omega), fun p1 ep1 => ?_⟩⟩
      subst el1; subst ep1
      rw [nI_1]
      refine hK _ _ _ (FI_H hA (fun c hc' hpc => ?_))
      rcases hc' with w | ⟨w1, w2, w3⟩
      · exact hA.2.2.2.2.2 c (Or.inl w) hpc
      · exact hA.2.2.2.2.2 c (Or.inr (by omega)) hpc
    · refine hK lab pile h (FI_H hF (fun c hc' hpc => ?_))
      rcases hc' with w | ⟨w1, w2, w3⟩
      · exact hF.2.2.2.2.2 c w hpc
      · exfalso
        rw [show c = 16 * y + x by omega, pb_in hc, m1, m2] at hpc
        cases hd : dk (mg rows m) x y <;> rw [hd] at e2 hpc <;> cases b
        · exact e2 rfl
        · exact absurd hpc (by decide)
        · exact absurd hpc (by decide)
        · exact e2 rfl
    · refine hK lab pile h (FI_H hF (fun c hc' hpc => ?_))
      rcases hc' with w | ⟨w1, w2, w3⟩
      · exact hF.2.2.2.2.2 c w hpc
      · rw [show c = 16 * y + x by omega]; exact hl
  · rw [br0]
    refine hK lab pile h (FI_H hF (fun c hc' hpc => ?_))
    rcases hc' with w | ⟨w1, w2, w3⟩
    · exact hF.2.2.2.2.2 c w hpc
    · exfalso
      omega
theorem add_t {x : Nat} (hx : x < 65536) {d : Int32} (h1 : -65536 ≤ d.toInt) (h2 : d.toInt ≤ 65536) : (nI x + d).toInt = (x : Int) + d.toInt := by
  rw [fb_addI (by rw [n_t (by omega)]; omega) (by rw [n_t (by omega)]; omega), n_t (by omega)]
theorem adj4 {c c' : Nat} (h : adj c c') : (c' % 16 = c % 16 ∧ c' / 16 + 1 = c / 16) ∨ (c' % 16 = c % 16 ∧ c' / 16 = c / 16 + 1) ∨ (c' % 16 + 1 = c % 16 ∧ c' / 16 = c / 16) ∨ (c' % 16 = c % 16 + 1 ∧ c' / 16 = c / 16) := by
  rcases h with ⟨_, _, ⟨a, b | b⟩ | ⟨a, b | b⟩⟩
  · exact Or.inr (Or.inr (Or.inr ⟨b.symm, a.symm⟩))
  · exact Or.inr (Or.inr (Or.inl ⟨b, a.symm⟩))
  · exact Or.inr (Or.inl ⟨a.symm, b.symm⟩)
  · exact Or.inl ⟨a.symm, b⟩
theorem adj4z {c c' : Nat} (h : adj c c') : (((c % 16 : Nat) : Int) = ((c' % 16 : Nat) : Int) ∧ ((c / 16 : Nat) : Int) + (-1) = ((c' / 16 : Nat) : Int)) ∨ (((c % 16 : Nat) : Int) = ((c' % 16 : Nat) : Int) ∧ ((c / 16 : Nat) : Int) + 1 = ((c' / 16 : Nat) : Int)) ∨ (((c % 16 : Nat) : Int) + (-1) = ((c' % 16 : Nat) : Int) ∧ ((c / 16 : Nat) : Int) = ((c' / 16 : Nat) : Int)) ∨ (((c % 16 : Nat) : Int) + 1 = ((c' % 16 : Nat) : Int) ∧ ((c / 16 : Nat) : Int) = ((c' / 16 : Nat) : Int)) := by
  have h := adj4 h
  generalize c % 16 = a at h ⊢
  generalize c / 16 = b at h ⊢
  generalize c' % 16 = a' at h ⊢
  generalize c' / 16 = b' at h ⊢
  rcases h with w | w | w | w
  · exact Or.inl ⟨by omega, by omega⟩
  · exact Or.inr (Or.inl ⟨by omega, by omega⟩)
  · exact Or.inr (Or.inr (Or.inl ⟨by omega, by omega⟩))
  · exact Or.inr (Or.inr (Or.inr ⟨by omega, by omega⟩))
theorem t_ways {rows lab0 lab pile : IA} {m n r h q c0 : Nat} {b : Bool} (hm : m < 4) (hn : n < 128) (hq : 0 < q) (hc0 : c0 < 256) (hcn : Conn (pb (mg rows m) b) r c0) (hF : FI (pb (mg rows m) b) lab0 n r lab pile h q c0 (fun _ => False)) {K : Int32 → Int32 → IA → IA → Prop}
    (hK : ∀ lab' pile' h', FI (pb (mg rows m) b) lab0 n r lab' pile' h' q 256 (fun _ => False) → K (nI 4) (nI h') lab' pile') : ∃ k, wl_Md_floods_40 rows (nI n) (nI m) (if b then 1 else 0) (nI c0) K k 0 (nI h) lab pile := by
  have x0 : c0 % 16 < 65536 := by omega
  have y0 : c0 / 16 < 65536 := by omega
  have z0 : (0 : Int32).toInt = 0 := rfl
  have z1 : (1 : Int32).toInt = 1 := rfl
  have con : ∀ (X Y : Int), ((X = ((c0 % 16 : Nat) : Int) + 1 ∧ Y = ((c0 / 16 : Nat) : Int)) ∨ (X = ((c0 % 16 : Nat) : Int) + (-1) ∧ Y = ((c0 / 16 : Nat) : Int)) ∨ (X = ((c0 % 16 : Nat) : Int) ∧ Y = ((c0 / 16 : Nat) : Int) + 1) ∨ (X = ((c0 % 16 : Nat) : Int) ∧ Y = ((c0 / 16 : Nat) : Int) + (-1))) → ∀ c : Nat, c < 256 → X = ((c % 16 : Nat) : Int) → Y = ((c / 16 : Nat) : Int) → pb (mg rows m) b c = true → Conn (pb (mg rows m) b) r c := by
    intro X Y hXY c hc eX eY hp
    refine conn_step hcn ?_ hp
    unfold adj
    omega
  have a1 : (nI (c0 % 16) + 1).toInt = ((c0 % 16 : Nat) : Int) + 1 := add_t x0 (d := 1) (by decide) (by decide)
  have a2 : (nI (c0 % 16) + (-1)).toInt = ((c0 % 16 : Nat) : Int) + (-1) := add_t x0 (d := -1) (by decide) (by decide)
  have a3 : (nI (c0 % 16) + 0).toInt = ((c0 % 16 : Nat) : Int) := by rw [add_t x0 (d := 0) (by decide) (by decide), z0, Int.add_zero]
  have b1 : (nI (c0 / 16) + 1).toInt = ((c0 / 16 : Nat) : Int) + 1 := add_t y0 (d := 1) (by decide) (by decide)
  have b2 : (nI (c0 / 16) + (-1)).toInt = ((c0 / 16 : Nat) : Int) + (-1) := add_t y0 (d := -1) (by decide) (by decide)
  have b3 : (nI (c0 / 16) + 0).toInt = ((c0 / 16 : Nat) : Int) := by rw [add_t y0 (d := 0) (by decide) (by decide), z0, Int.add_zero]
  refine ⟨4 + 1, ?_⟩
  rw [wl_Md_floods_40]
  refine ⟨fun w => absurd w (by decide), fun _ => ?_⟩
  dsimp only [jn]
  rw [brA rfl]
  unfold wj_Md_floods_71
  rw [r16d hc0]
  intro x7 e7
  dsimp only [jn]
  rw [brB (show ¬ (0 : Int32) = 2 by decide), brB (show ¬ (0 : Int32) = 3 by decide)]
  subst e7
  refine t_way hm hn hq hc0 hF a1 b3 (con _ _ (Or.inl ⟨rfl, rfl⟩)) (fun l1 p1 h1 F1 => ?_)
  show wl_Md_floods_40 rows (nI n) (nI m) (if b then 1 else 0) (nI c0) K (3 + 1) 1 (nI h1) l1 p1
  rw [wl_Md_floods_40]
  refine ⟨fun w => absurd w (by decide), fun _ => ?_⟩
  dsimp only [jn]
  rw [brB (show ¬ (1 : Int32) = 0 by decide), brA rfl]
  unfold wj_Md_floods_71
  rw [r16d hc0]
  intro x7 e7
  dsimp only [jn]
  rw [brB (show ¬ (1 : Int32) = 2 by decide), brB (show ¬ (1 : Int32) = 3 by decide)]
  subst e7
  refine t_way hm hn hq hc0 F1 a2 b3 (con _ _ (Or.inr (Or.inl ⟨rfl, rfl⟩))) (fun l2 p2 h2 F2 => ?_)
  show wl_Md_floods_40 rows (nI n) (nI m) (if b then 1 else 0) (nI c0) K (2 + 1) 2 (nI h2) l2 p2
  rw [wl_Md_floods_40]
  refine ⟨fun w => absurd w (by decide), fun _ => ?_⟩
  dsimp only [jn]
  rw [brB (show ¬ (2 : Int32) = 0 by decide), brB (show ¬ (2 : Int32) = 1 by decide)]
  unfold wj_Md_floods_71
  rw [r16d hc0]
  intro x7 e7
  dsimp only [jn]
  rw [brA rfl]
  subst e7
  refine t_way hm hn hq hc0 F2 a3 b1 (con _ _ (Or.inr (Or.inr (Or.inl ⟨rfl, rfl⟩)))) (fun l3 p3 h3 F3 => ?_)
  show wl_Md_floods_40 rows (nI n) (nI m) (if b then 1 else 0) (nI c0) K (1 + 1) 3 (nI h3) l3 p3
  rw [wl_Md_floods_40]
  refine ⟨fun w => absurd w (by decide), fun _ => ?_⟩
  dsimp only [jn]
  rw [brB (show ¬ (3 : Int32) = 0 by decide), brB (show ¬ (3 : Int32) = 1 by decide)]
  unfold wj_Md_floods_71
  rw [r16d hc0]
  intro x7 e7
  dsimp only [jn]
  rw [brB (show ¬ (3 : Int32) = 2 by decide), brA rfl]
  subst e7
  refine t_way hm hn hq hc0 F3 a3 b2 (con _ _ (Or.inr (Or.inr (Or.inr ⟨rfl, rfl⟩)))) (fun l4 p4 h4 F4 => ?_)
  show wl_Md_floods_40 rows (nI n) (nI m) (if b then 1 else 0) (nI c0) K (0 + 1) 4 (nI h4) l4 p4
  rw [wl_Md_floods_40]
  refine ⟨fun _ => hK l4 p4 h4 ⟨F4.1, F4.2.1, fun c hc hl => ?_, F4.2.2.2.1, F4.2.2.2.2.1, fun _ w => False.elim w⟩, fun w => absurd (by decide) w⟩
  rcases F4.2.2.1 c hc hl with w | w | w
  · exact Or.inl w
  · exact Or.inr (Or.inl w)
  · subst w
    refine Or.inr (Or.inl (fun c' ha hp => F4.2.2.2.2.2 c' ?_ hp))
    have hb := ha.2.1
    rcases adj4z ha with w | w | w | w
    · exact Or.inr ⟨hb, w⟩
    · exact Or.inl (Or.inr ⟨hb, w⟩)
    · exact Or.inl (Or.inl (Or.inr ⟨hb, w⟩))
    · exact Or.inl (Or.inl (Or.inl (Or.inr ⟨hb, w⟩)))
theorem t_floodL {rows lab0 : IA} {m n r : Nat} {b : Bool} (hm : m < 4) (hn : n < 128) {K : Int32 → IA → IA → Prop} (hK : ∀ v lab pile, FL (pb (mg rows m) b) lab0 lab r n → K v lab pile) : ∀ (N h q : Nat) (lab pile : IA), 256 - q ≤ N → FI (pb (mg rows m) b) lab0 n r lab pile h q 256 (fun _ => False) → wl_Md_floods_20 rows (nI n) (nI m) (if b then 1 else 0) K (N + 1) (nI h) lab pile := by
  have fin : ∀ q lab pile, FI (pb (mg rows m) b) lab0 n r lab pile 0 q 256 (fun _ => False) → FL (pb (mg rows m) b) lab0 lab r n := by
    intro q lab pile hF
    refine ⟨hF.1, hF.2.2.2.2.1, fun c c' hc h0 hl ha hp => ?_⟩
    rcases hF.2.2.1 c hc hl with ⟨j, w, _⟩ | w | w
    · omega
    · exact w c' ha hp
    · omega
  intro N
  induction N with
  | zero =>
    intro h q lab pile hN hF
    have hle := fb_ct_le (fun c => decide (lab c = nI n)) 256
    have h4 := hF.2.2.2.1
    have : h = 0 := by omega
    subst this
    rw [wl_Md_floods_20]
    exact ⟨fun _ => hK _ _ _ (fin q lab pile hF), fun w => absurd (by decide) w⟩
  | succ N ih =>
    intro h q lab pile hN hF
    cases h with
    | zero =>
      rw [wl_Md_floods_20]
      exact ⟨fun _ => hK _ _ _ (fin q lab pile hF), fun w => absurd (by decide) w⟩
    | succ h =>
      have hle := fb_ct_le (fun c => decide (lab c = nI n)) 256
      have h4 := hF.2.2.2.1
      rw [wl_Md_floods_20, pk_m1, clN (by omega)]
      refine ⟨fun w => absurd w (nI_nle (by omega) (by omega)), fun _ => ⟨vp_in_nI (by omega) (by omega), fun x5 e5 => ?_⟩⟩
      obtain ⟨c0, hc0, ec, hl, hl0⟩ := hF.2.1 h (by omega)
      rw [ec] at e5
      subst e5
      have hcn : Conn (pb (mg rows m) b) r c0 := by
        rcases hF.1 c0 hc0 with w | ⟨_, _, _, w⟩
        · rw [w, hl0] at hl
          exact absurd hl.symm (nI_m1 (by omega))
        · exact w
      refine t_ways (q := q + 1) hm hn (by omega) hc0 hcn ⟨hF.1, fun j hj => hF.2.1 j (by omega), fun c hc hlc => ?_, by omega, hF.2.2.2.2.1, fun _ w => False.elim w⟩ (fun l' p' h' F' => ih h' (q + 1) l' p' (by omega) F')
      rcases hF.2.2.1 c hc hlc with ⟨j, w1, w2⟩ | w | w
      · by_cases z : j = h
        · subst z
          rw [ec] at w2
          exact Or.inr (Or.inr (nI_inj (by omega) (by omega) w2.symm))
        · exact Or.inl ⟨j, by omega, w2⟩
      · exact Or.inr (Or.inl w)
      · omega
theorem t_floods {rows lab0 pile : IA} {m n r : Nat} {b : Bool} (hm : m < 4) (hn : n < 128) (hr : r < 256) (hp : pb (mg rows m) b r = true) (hl : lab0 r = (-1)) (hno : ∀ c, c < 256 → lab0 c ≠ nI n) {Q : IA → IA → Int32 → Prop} (hQ : ∀ lab pile, FL (pb (mg rows m) b) lab0 lab r n → Q lab pile (nI (n + 1))) : wp_Md_floods rows lab0 pile (nI n) (nI m) (if b then 1 else 0) (nI r) Q := by
  unfold wp_Md_floods
  rw [cl0, clN (by omega)]
  refine ⟨vp_in_nI (n := 0) (by omega) (by omega), fun p1 ep1 => ⟨vp_in_nI hr (by omega), fun l1 el1 => ⟨256 + 1, ?_⟩⟩⟩
  subst ep1; subst el1
  have ct0 : fb_ct (fun c => decide (lab0 c = nI n)) 256 = 0 := fb_ct_zero.mpr (fun k hk => decide_eq_false (hno k hk))
  refine t_floodL (lab0 := lab0) hm hn (fun v lab pile h => ?_) 256 1 0 _ _ (by omega) ⟨fun c hc => ?_, fun j hj => ?_, fun c hc hlc => ?_, ?_, pk_us, fun _ w => False.elim w⟩
  · unfold wx_Md_floods_187
    intro v2 ev2
    rw [nI_1] at ev2
    subst ev2
    exact hQ lab pile h
  · by_cases z : c = r
    · subst z; rw [pk_us]; exact Or.inr ⟨hl, rfl, hp, conn_refl _ _⟩
    · rw [pk_un z]; exact Or.inl rfl
  · have : j = 0 := by omega
    subst this
    exact ⟨r, hr, pk_us, pk_us, hl⟩
  · by_cases z : c = r
    · subst z; exact Or.inl ⟨0, by omega, pk_us⟩
    · rw [pk_un z] at hlc
      exact absurd hlc (hno c hc)
  · rw [ct_put hr (hno r hr), ct0]
theorem t_labels {rows label pile : IA} {m : Nat} {b : Bool} (hm : m < 4) {Q : IA → IA → Int32 → Prop} (hQ : ∀ lab pile n, n ≤ 128 → IsLab (pb (mg rows m) b) lab n → Q lab pile (nI n)) : wp_Md_labels rows label pile (nI m) (if b then 1 else 0) Q := by
  unfold wp_Md_labels
  refine lp (fun k i (s : IA) => wl_Md_labels_7 (wx_Md_labels_27 rows pile (nI m) (if b then 1 else 0) Q) k (nI i) s) (fun i s => ∀ c, c < i → s c = (-1)) 256 label (fun c hc => by omega) (fun k s h => ?_) (fun k i s hi h ih => ?_)
  · rw [wl_Md_labels_7]
    refine ⟨fun _ => ?_, fun q => absurd le256 q⟩
    unfold wx_Md_labels_27
    refine lp (fun k i (s : IA × IA × Int32) => wl_Md_labels_29 rows (nI m) (if b then 1 else 0) Q k (nI i) s.1 s.2.1 s.2.2) (fun i s => ∃ n : Nat, s.2.2 = nI n ∧ J (pb (mg rows m) b) s.1 n i) 256 (s, pile, 0) ⟨0, rfl, J_0 h⟩ (fun k s h => ?_) (fun k i s hi h ih => ?_)
    · obtain ⟨L, P, N⟩ := s
      obtain ⟨n, h1, h2⟩ := h
      simp only at h1 h2
      subst h1
      show wl_Md_labels_29 rows (nI m) (if b then 1 else 0) Q (k + 1) (nI 256) L P (nI n)
      rw [wl_Md_labels_29]
      have hE := J_end h2
      exact ⟨fun _ => hQ L P n hE.1 hE.2, fun q => absurd le256 q⟩
    · obtain ⟨L, P, N⟩ := s
      obtain ⟨n, h1, h2⟩ := h
      simp only at h1 h2
      subst h1
      show wl_Md_labels_29 rows (nI m) (if b then 1 else 0) Q (k + 1) (nI i) L P (nI n)
      rw [wl_Md_labels_29]
      refine ⟨fun q => absurd q (ge256 hi), fun _ => ⟨vp_in_nI hi (by omega), ?_⟩⟩
      dsimp only [jn]
      rw [clN (by omega), r16d hi, d16d hi, e_darkN rows hm (by omega) (by omega), nI_1]
      refine ⟨fun q => ⟨fun e => ?_, fun e => ?_⟩, fun q => ih (L, P, nI n) ⟨n, rfl, J_skip h2 (Or.inl q)⟩⟩
      · have hp : pb (mg rows m) b i = true := by
          rw [pb_in hi]
          cases hd : dk (mg rows m) (i % 16) (i / 16) <;> rw [hd] at e <;> cases b
          · rfl
          · exact absurd e (by decide)
          · exact absurd e (by decide)
          · rfl
        have hn := J_new h2 hi hp q
        have hno : ∀ c, c < 256 → L c ≠ nI n := by
          intro c hc e
          rcases h2.2.1 c hc with w | ⟨_, k2, hk2, w⟩
          · rw [w] at e; exact nI_m1 (by omega) e.symm
          · rw [w] at e
            have := nI_inj (by omega) (by omega) e
            omega
        exact t_floods hm (by omega) hi hp q hno (fun L' P' hF => ih (L', P', nI (n + 1)) ⟨n + 1, rfl, J_step h2 hi hp q hF⟩)
      · refine ih (L, P, nI n) ⟨n, rfl, J_skip h2 (Or.inr ?_)⟩
        rw [pb_in hi]
        cases hd : dk (mg rows m) (i % 16) (i / 16) <;> rw [hd] at e <;> cases b
        · exact absurd rfl e
        · rfl
        · rfl
        · exact absurd rfl e
  · rw [wl_Md_labels_7]
    refine ⟨fun q => absurd q (ge256 hi), fun _ => ⟨vp_in_nI hi (by omega), fun f1 e1 => ?_⟩⟩
    subst e1
    rw [nI_1, clN (by omega)]
    refine ih _ (fun c hc => ?_)
    by_cases q : c = i
    · subst q; exact pk_us
    · rw [pk_un q]; exact h c (by omega)
