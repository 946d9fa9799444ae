/-! The kinds of objects in a world, and the two flat worlds: the class's own cells, and the reference's. Printed by wip/whole/gen/worlds.py. -/
def gR (G : GG) (ad : Nat → Nat) (ws : va_W) (b : Nat) (rows : IA) : Prop := ws[b]? = some (ad b, .inr (1, [.ref (ad (b + 1))])) ∧ ws[b + 1]? = some (ad (b + 1), .inl (G.2.1, 16, .inl rows))
def gW (G : GG) (ad : Nat → Nat) (Wd : IA → va_W) (b : Nat) : Prop := ∀ (rows : IA), gR G ad (Wd rows) b rows ∧ (∀ z : IA, (Wd rows).set (b + 1) (ad (b + 1), .inl (G.2.1, 16, .inl z)) = Wd z)
def pR (G : GG) (ad : Nat → Nat) (ws : va_W) (b : Nat) (seen : IA) (labels : IA) (reached : IA) (figures : IA) (parts : Int32) : Prop := ws[b]? = some (ad b, .inr (2, [.ref (ad (b + 1)), .ref (ad (b + 3)), .ref (ad (b + 4)), .ref (ad (b + 5)), .int parts])) ∧ ws[b + 1]? = some (ad (b + 1), .inr (1, [.ref (ad (b + 2))])) ∧ ws[b + 2]? = some (ad (b + 2), .inl (G.2.1, 16, .inl seen)) ∧ ws[b + 3]? = some (ad (b + 3), .inl (G.2.1, 256, .inl labels)) ∧ ws[b + 4]? = some (ad (b + 4), .inl (G.2.1, 256, .inl reached)) ∧ ws[b + 5]? = some (ad (b + 5), .inl (G.2.1, 768, .inl figures))
def pW (G : GG) (ad : Nat → Nat) (Wd : IA → IA → IA → IA → Int32 → va_W) (b : Nat) : Prop := ∀ (seen : IA) (labels : IA) (reached : IA) (figures : IA) (parts : Int32), pR G ad (Wd seen labels reached figures parts) b seen labels reached figures parts ∧ (∀ z : IA, (Wd seen labels reached figures parts).set (b + 2) (ad (b + 2), .inl (G.2.1, 16, .inl z)) = Wd z labels reached figures parts) ∧ (∀ z : IA, (Wd seen labels reached figures parts).set (b + 3) (ad (b + 3), .inl (G.2.1, 256, .inl z)) = Wd seen z reached figures parts) ∧ (∀ z : IA, (Wd seen labels reached figures parts).set (b + 4) (ad (b + 4), .inl (G.2.1, 256, .inl z)) = Wd seen labels z figures parts) ∧ (∀ z : IA, (Wd seen labels reached figures parts).set (b + 5) (ad (b + 5), .inl (G.2.1, 768, .inl z)) = Wd seen labels reached z parts) ∧ (∀ z : Int32, (Wd seen labels reached figures parts).set b (ad b, .inr (2, [.ref (ad (b + 1)), .ref (ad (b + 3)), .ref (ad (b + 4)), .ref (ad (b + 5)), .int z])) = Wd seen labels reached figures z)
def sR (G : GG) (ad : Nat → Nat) (ws : va_W) (b : Nat) (items : IA) (lost : Int32) (form : Int32) (size : Int32) : Prop := ws[b]? = some (ad b, .inr (3, [.ref (ad (b + 1)), .int lost, .int form, .int size])) ∧ ws[b + 1]? = some (ad (b + 1), .inl (G.2.1, 60, .inl items))
def sW (G : GG) (ad : Nat → Nat) (Wd : IA → Int32 → Int32 → Int32 → va_W) (b : Nat) : Prop := ∀ (items : IA) (lost : Int32) (form : Int32) (size : Int32), sR G ad (Wd items lost form size) b items lost form size ∧ (∀ z : IA, (Wd items lost form size).set (b + 1) (ad (b + 1), .inl (G.2.1, 60, .inl z)) = Wd z lost form size) ∧ (∀ z : Int32, (Wd items lost form size).set b (ad b, .inr (3, [.ref (ad (b + 1)), .int z, .int form, .int size])) = Wd items z form size) ∧ (∀ z : Int32, (Wd items lost form size).set b (ad b, .inr (3, [.ref (ad (b + 1)), .int lost, .int z, .int size])) = Wd items lost z size) ∧ (∀ z : Int32, (Wd items lost form size).set b (ad b, .inr (3, [.ref (ad (b + 1)), .int lost, .int form, .int z])) = Wd items lost form z)
def nR (G : GG) (ad : Nat → Nat) (ws : va_W) (b : Nat) (seen : IA) (list : IA) (told : Int32) (darkBlocks : Int32) (mixed : Int32) (deepest : Int32) : Prop := ws[b]? = some (ad b, .inr (4, [.ref (ad (b + 1)), .ref (ad (b + 3)), .int told, .int darkBlocks, .int mixed, .int deepest])) ∧ ws[b + 1]? = some (ad (b + 1), .inr (1, [.ref (ad (b + 2))])) ∧ ws[b + 2]? = some (ad (b + 2), .inl (G.2.1, 16, .inl seen)) ∧ ws[b + 3]? = some (ad (b + 3), .inl (G.2.1, 341, .inl list))
def nW (G : GG) (ad : Nat → Nat) (Wd : IA → IA → Int32 → Int32 → Int32 → Int32 → va_W) (b : Nat) : Prop := ∀ (seen : IA) (list : IA) (told : Int32) (darkBlocks : Int32) (mixed : Int32) (deepest : Int32), nR G ad (Wd seen list told darkBlocks mixed deepest) b seen list told darkBlocks mixed deepest ∧ (∀ z : IA, (Wd seen list told darkBlocks mixed deepest).set (b + 2) (ad (b + 2), .inl (G.2.1, 16, .inl z)) = Wd z list told darkBlocks mixed deepest) ∧ (∀ z : IA, (Wd seen list told darkBlocks mixed deepest).set (b + 3) (ad (b + 3), .inl (G.2.1, 341, .inl z)) = Wd seen z told darkBlocks mixed deepest) ∧ (∀ z : Int32, (Wd seen list told darkBlocks mixed deepest).set b (ad b, .inr (4, [.ref (ad (b + 1)), .ref (ad (b + 3)), .int z, .int darkBlocks, .int mixed, .int deepest])) = Wd seen list z darkBlocks mixed deepest) ∧ (∀ z : Int32, (Wd seen list told darkBlocks mixed deepest).set b (ad b, .inr (4, [.ref (ad (b + 1)), .ref (ad (b + 3)), .int told, .int z, .int mixed, .int deepest])) = Wd seen list told z mixed deepest) ∧ (∀ z : Int32, (Wd seen list told darkBlocks mixed deepest).set b (ad b, .inr (4, [.ref (ad (b + 1)), .ref (ad (b + 3)), .int told, .int darkBlocks, .int z, .int deepest])) = Wd seen list told darkBlocks z deepest) ∧ (∀ z : Int32, (Wd seen list told darkBlocks mixed deepest).set b (ad b, .inr (4, [.ref (ad (b + 1)), .ref (ad (b + 3)), .int told, .int darkBlocks, .int mixed, .int z])) = Wd seen list told darkBlocks mixed z)
def cR (G : GG) (ad : Nat → Nat) (ws : va_W) (b : Nat) (masks : IA) (rows : IA) (next : Int32) (known : Int32) : Prop := ws[b]? = some (ad b, .inr (0, [.ref (ad (b + 1)), .ref (ad (b + 2)), .int next, .int known])) ∧ ws[b + 1]? = some (ad (b + 1), .inl (G.2.1, 40, .inl masks)) ∧ ws[b + 2]? = some (ad (b + 2), .inl (G.2.1, 640, .inl rows))
def cW (G : GG) (ad : Nat → Nat) (Wd : IA → IA → Int32 → Int32 → va_W) (b : Nat) : Prop := ∀ (masks : IA) (rows : IA) (next : Int32) (known : Int32), cR G ad (Wd masks rows next known) b masks rows next known ∧ (∀ z : IA, (Wd masks rows next known).set (b + 1) (ad (b + 1), .inl (G.2.1, 40, .inl z)) = Wd z rows next known) ∧ (∀ z : IA, (Wd masks rows next known).set (b + 2) (ad (b + 2), .inl (G.2.1, 640, .inl z)) = Wd masks z next known) ∧ (∀ z : Int32, (Wd masks rows next known).set b (ad b, .inr (0, [.ref (ad (b + 1)), .ref (ad (b + 2)), .int z, .int known])) = Wd masks rows z known) ∧ (∀ z : Int32, (Wd masks rows next known).set b (ad b, .inr (0, [.ref (ad (b + 1)), .ref (ad (b + 2)), .int next, .int z])) = Wd masks rows next z)
theorem pR_seen {G : GG} {ad : Nat → Nat} {ws : va_W} {b : Nat} {x0 x1 x2 x3 : IA} {x4 : Int32} (h : pR G ad ws b x0 x1 x2 x3 x4) : gR G ad ws (b + 1) x0 := ⟨h.2.1, h.2.2.1⟩
theorem pW_seen {G : GG} {ad : Nat → Nat} {Wd : IA → IA → IA → IA → Int32 → va_W} {b : Nat} (h : pW G ad Wd b) (x1 x2 x3 : IA) (x4 : Int32) : gW G ad (fun z0 => Wd z0 x1 x2 x3 x4) (b + 1) := fun z0 => ⟨pR_seen (h z0 x1 x2 x3 x4).1, (h z0 x1 x2 x3 x4).2.1⟩
theorem nR_seen {G : GG} {ad : Nat → Nat} {ws : va_W} {b : Nat} {x0 x1 : IA} {x2 x3 x4 x5 : Int32} (h : nR G ad ws b x0 x1 x2 x3 x4 x5) : gR G ad ws (b + 1) x0 := ⟨h.2.1, h.2.2.1⟩
theorem nW_seen {G : GG} {ad : Nat → Nat} {Wd : IA → IA → Int32 → Int32 → Int32 → Int32 → va_W} {b : Nat} (h : nW G ad Wd b) (x1 : IA) (x2 x3 x4 x5 : Int32) : gW G ad (fun z0 => Wd z0 x1 x2 x3 x4 x5) (b + 1) := fun z0 => ⟨nR_seen (h z0 x1 x2 x3 x4 x5).1, (h z0 x1 x2 x3 x4 x5).2.1⟩
def cw (G : GG) (ad : Nat → Nat) (lf : Int32) (chM : IA) (chR : IA) (chN : Int32) (chK : Int32) (md : IA) (sp : IA) (dS : IA) (dL : IA) (dR : IA) (dF : IA) (dP : Int32) (lS : IA) (lL : IA) (lR : IA) (lF : IA) (lP : Int32) (sS : IA) (sL : IA) (sT : Int32) (sD : Int32) (sM : Int32) (sX : Int32) (mk : Nat → IA) (si : Nat → IA) (sl : IA) (sf : IA) (ss : IA) : va_W :=
  [(ad 0, .inr (5, [.ref (ad 1), .ref (ad 2), .ref (ad 3), .ref (ad 6), .ref (ad 8), .ref (ad 10), .ref (ad 16), .ref (ad 22), .int lf])),
   (ad 1, .inl (G.2.2.1, 4, .inr (.inr (.inr (.inr (fun k => some (ad (26 + 2 * k)))))))),
   (ad 2, .inl (G.2.2.2, 4, .inr (.inr (.inr (.inr (fun k => some (ad (34 + 2 * k)))))))),
   (ad 3, .inr (0, [.ref (ad 4), .ref (ad 5), .int chN, .int chK])),
   (ad 4, .inl (G.2.1, 40, .inl chM)),
   (ad 5, .inl (G.2.1, 640, .inl chR)),
   (ad 6, .inr (1, [.ref (ad 7)])),
   (ad 7, .inl (G.2.1, 16, .inl md)),
   (ad 8, .inr (1, [.ref (ad 9)])),
   (ad 9, .inl (G.2.1, 16, .inl sp)),
   (ad 10, .inr (2, [.ref (ad 11), .ref (ad 13), .ref (ad 14), .ref (ad 15), .int dP])),
   (ad 11, .inr (1, [.ref (ad 12)])),
   (ad 12, .inl (G.2.1, 16, .inl dS)),
   (ad 13, .inl (G.2.1, 256, .inl dL)),
   (ad 14, .inl (G.2.1, 256, .inl dR)),
   (ad 15, .inl (G.2.1, 768, .inl dF)),
   (ad 16, .inr (2, [.ref (ad 17), .ref (ad 19), .ref (ad 20), .ref (ad 21), .int lP])),
   (ad 17, .inr (1, [.ref (ad 18)])),
   (ad 18, .inl (G.2.1, 16, .inl lS)),
   (ad 19, .inl (G.2.1, 256, .inl lL)),
   (ad 20, .inl (G.2.1, 256, .inl lR)),
   (ad 21, .inl (G.2.1, 768, .inl lF)),
   (ad 22, .inr (4, [.ref (ad 23), .ref (ad 25), .int sT, .int sD, .int sM, .int sX])),
   (ad 23, .inr (1, [.ref (ad 24)])),
   (ad 24, .inl (G.2.1, 16, .inl sS)),
   (ad 25, .inl (G.2.1, 341, .inl sL)),
   (ad 26, .inr (1, [.ref (ad 27)])),
   (ad 27, .inl (G.2.1, 16, .inl (mk 0))),
   (ad 28, .inr (1, [.ref (ad 29)])),
   (ad 29, .inl (G.2.1, 16, .inl (mk 1))),
   (ad 30, .inr (1, [.ref (ad 31)])),
   (ad 31, .inl (G.2.1, 16, .inl (mk 2))),
   (ad 32, .inr (1, [.ref (ad 33)])),
   (ad 33, .inl (G.2.1, 16, .inl (mk 3))),
   (ad 34, .inr (3, [.ref (ad 35), .int (sl 0), .int (sf 0), .int (ss 0)])),
   (ad 35, .inl (G.2.1, 60, .inl (si 0))),
   (ad 36, .inr (3, [.ref (ad 37), .int (sl 1), .int (sf 1), .int (ss 1)])),
   (ad 37, .inl (G.2.1, 60, .inl (si 1))),
   (ad 38, .inr (3, [.ref (ad 39), .int (sl 2), .int (sf 2), .int (ss 2)])),
   (ad 39, .inl (G.2.1, 60, .inl (si 2))),
   (ad 40, .inr (3, [.ref (ad 41), .int (sl 3), .int (sf 3), .int (ss 3)])),
   (ad 41, .inl (G.2.1, 60, .inl (si 3)))]
def mw (G : GG) (ad : Nat → Nat) (forms : IA) (sizes : IA) (items : IA) (moved : IA) (latest : Int32) (rows : IA) (fresh : IA) (oldMask : IA) (oldRows : IA) (known : Int32) (drawn : Int32) (label : IA) (pile : IA) (parts : Int32) (waitX : IA) (waitY : IA) (waitSide : IA) (waits : Int32) (sign : IA) (signs : Int32) (many : IA) : va_W :=
  [(ad 0, .inr (6, [.ref (ad 1), .ref (ad 2), .ref (ad 3), .ref (ad 4), .int latest, .ref (ad 5), .ref (ad 6), .ref (ad 7), .ref (ad 8), .int known, .int drawn, .ref (ad 9), .ref (ad 10), .int parts, .ref (ad 11), .ref (ad 12), .ref (ad 13), .int waits, .ref (ad 14), .int signs, .ref (ad 15)])),
   (ad 1, .inl (G.2.1, 4, .inl forms)),
   (ad 2, .inl (G.2.1, 4, .inl sizes)),
   (ad 3, .inl (G.2.1, 240, .inl items)),
   (ad 4, .inl (G.2.1, 60, .inl moved)),
   (ad 5, .inl (G.2.1, 64, .inl rows)),
   (ad 6, .inl (G.2.1, 16, .inl fresh)),
   (ad 7, .inl (G.2.1, 40, .inl oldMask)),
   (ad 8, .inl (G.2.1, 640, .inl oldRows)),
   (ad 9, .inl (G.2.1, 256, .inl label)),
   (ad 10, .inl (G.2.1, 256, .inl pile)),
   (ad 11, .inl (G.2.1, 16, .inl waitX)),
   (ad 12, .inl (G.2.1, 16, .inl waitY)),
   (ad 13, .inl (G.2.1, 16, .inl waitSide)),
   (ad 14, .inl (G.2.1, 341, .inl sign)),
   (ad 15, .inl (G.2.1, 4, .inl many))]
theorem va_upI {α : Type} (f : Nat → α) (k : Nat) : va_up f k (f k) = f := by
  funext j
  by_cases h : j = k
  · simp [va_up, h]
  · simp [va_up, h]
theorem qm_lt4 {i : Int32} (h : vp_in i 4) : i.toNatClampNeg < 4 := by
  unfold vp_in at h
  omega
theorem cw_ch (G : GG) (ad : Nat → Nat) (lf : Int32) (chM : IA) (chR : IA) (chN : Int32) (chK : Int32) (md : IA) (sp : IA) (dS : IA) (dL : IA) (dR : IA) (dF : IA) (dP : Int32) (lS : IA) (lL : IA) (lR : IA) (lF : IA) (lP : Int32) (sS : IA) (sL : IA) (sT : Int32) (sD : Int32) (sM : Int32) (sX : Int32) (mk : Nat → IA) (si : Nat → IA) (sl : IA) (sf : IA) (ss : IA) : cW G ad (fun z0 z1 z2 z3 => cw G ad lf z0 z1 z2 z3 md sp dS dL dR dF dP lS lL lR lF lP sS sL sT sD sM sX mk si sl sf ss) 3 := fun z0 z1 z2 z3 => ⟨⟨rfl, rfl, rfl⟩, fun _ => rfl, fun _ => rfl, fun _ => rfl, fun _ => rfl⟩
theorem cw_md (G : GG) (ad : Nat → Nat) (lf : Int32) (chM : IA) (chR : IA) (chN : Int32) (chK : Int32) (md : IA) (sp : IA) (dS : IA) (dL : IA) (dR : IA) (dF : IA) (dP : Int32) (lS : IA) (lL : IA) (lR : IA) (lF : IA) (lP : Int32) (sS : IA) (sL : IA) (sT : Int32) (sD : Int32) (sM : Int32) (sX : Int32) (mk : Nat → IA) (si : Nat → IA) (sl : IA) (sf : IA) (ss : IA) : gW G ad (fun z0 => cw G ad lf chM chR chN chK z0 sp dS dL dR dF dP lS lL lR lF lP sS sL sT sD sM sX mk si sl sf ss) 6 := fun z0 => ⟨⟨rfl, rfl⟩, fun _ => rfl⟩
theorem cw_sp (G : GG) (ad : Nat → Nat) (lf : Int32) (chM : IA) (chR : IA) (chN : Int32) (chK : Int32) (md : IA) (sp : IA) (dS : IA) (dL : IA) (dR : IA) (dF : IA) (dP : Int32) (lS : IA) (lL : IA) (lR : IA) (lF : IA) (lP : Int32) (sS : IA) (sL : IA) (sT : Int32) (sD : Int32) (sM : Int32) (sX : Int32) (mk : Nat → IA) (si : Nat → IA) (sl : IA) (sf : IA) (ss : IA) : gW G ad (fun z0 => cw G ad lf chM chR chN chK md z0 dS dL dR dF dP lS lL lR lF lP sS sL sT sD sM sX mk si sl sf ss) 8 := fun z0 => ⟨⟨rfl, rfl⟩, fun _ => rfl⟩
theorem cw_dp (G : GG) (ad : Nat → Nat) (lf : Int32) (chM : IA) (chR : IA) (chN : Int32) (chK : Int32) (md : IA) (sp : IA) (dS : IA) (dL : IA) (dR : IA) (dF : IA) (dP : Int32) (lS : IA) (lL : IA) (lR : IA) (lF : IA) (lP : Int32) (sS : IA) (sL : IA) (sT : Int32) (sD : Int32) (sM : Int32) (sX : Int32) (mk : Nat → IA) (si : Nat → IA) (sl : IA) (sf : IA) (ss : IA) : pW G ad (fun z0 z1 z2 z3 z4 => cw G ad lf chM chR chN chK md sp z0 z1 z2 z3 z4 lS lL lR lF lP sS sL sT sD sM sX mk si sl sf ss) 10 := fun z0 z1 z2 z3 z4 => ⟨⟨rfl, rfl, rfl, rfl, rfl, rfl⟩, fun _ => rfl, fun _ => rfl, fun _ => rfl, fun _ => rfl, fun _ => rfl⟩
theorem cw_lp (G : GG) (ad : Nat → Nat) (lf : Int32) (chM : IA) (chR : IA) (chN : Int32) (chK : Int32) (md : IA) (sp : IA) (dS : IA) (dL : IA) (dR : IA) (dF : IA) (dP : Int32) (lS : IA) (lL : IA) (lR : IA) (lF : IA) (lP : Int32) (sS : IA) (sL : IA) (sT : Int32) (sD : Int32) (sM : Int32) (sX : Int32) (mk : Nat → IA) (si : Nat → IA) (sl : IA) (sf : IA) (ss : IA) : pW G ad (fun z0 z1 z2 z3 z4 => cw G ad lf chM chR chN chK md sp dS dL dR dF dP z0 z1 z2 z3 z4 sS sL sT sD sM sX mk si sl sf ss) 16 := fun z0 z1 z2 z3 z4 => ⟨⟨rfl, rfl, rfl, rfl, rfl, rfl⟩, fun _ => rfl, fun _ => rfl, fun _ => rfl, fun _ => rfl, fun _ => rfl⟩
theorem cw_sg (G : GG) (ad : Nat → Nat) (lf : Int32) (chM : IA) (chR : IA) (chN : Int32) (chK : Int32) (md : IA) (sp : IA) (dS : IA) (dL : IA) (dR : IA) (dF : IA) (dP : Int32) (lS : IA) (lL : IA) (lR : IA) (lF : IA) (lP : Int32) (sS : IA) (sL : IA) (sT : Int32) (sD : Int32) (sM : Int32) (sX : Int32) (mk : Nat → IA) (si : Nat → IA) (sl : IA) (sf : IA) (ss : IA) : nW G ad (fun z0 z1 z2 z3 z4 z5 => cw G ad lf chM chR chN chK md sp dS dL dR dF dP lS lL lR lF lP z0 z1 z2 z3 z4 z5 mk si sl sf ss) 22 := fun z0 z1 z2 z3 z4 z5 => ⟨⟨rfl, rfl, rfl, rfl⟩, fun _ => rfl, fun _ => rfl, fun _ => rfl, fun _ => rfl, fun _ => rfl, fun _ => rfl⟩
theorem cw_mkR (G : GG) (ad : Nat → Nat) (lf : Int32) (chM : IA) (chR : IA) (chN : Int32) (chK : Int32) (md : IA) (sp : IA) (dS : IA) (dL : IA) (dR : IA) (dF : IA) (dP : Int32) (lS : IA) (lL : IA) (lR : IA) (lF : IA) (lP : Int32) (sS : IA) (sL : IA) (sT : Int32) (sD : Int32) (sM : Int32) (sX : Int32) (mk : Nat → IA) (si : Nat → IA) (sl : IA) (sf : IA) (ss : IA) {j : Nat} (hj : j < 4) : gR G ad (cw G ad lf chM chR chN chK md sp dS dL dR dF dP lS lL lR lF lP sS sL sT sD sM sX mk si sl sf ss) (26 + 2 * j) (mk j) := by
  match j, hj with
  | 0, _ => exact ⟨rfl, rfl⟩
  | 1, _ => exact ⟨rfl, rfl⟩
  | 2, _ => exact ⟨rfl, rfl⟩
  | 3, _ => exact ⟨rfl, rfl⟩
theorem cw_mkW (G : GG) (ad : Nat → Nat) (lf : Int32) (chM : IA) (chR : IA) (chN : Int32) (chK : Int32) (md : IA) (sp : IA) (dS : IA) (dL : IA) (dR : IA) (dF : IA) (dP : Int32) (lS : IA) (lL : IA) (lR : IA) (lF : IA) (lP : Int32) (sS : IA) (sL : IA) (sT : Int32) (sD : Int32) (sM : Int32) (sX : Int32) (mk : Nat → IA) (si : Nat → IA) (sl : IA) (sf : IA) (ss : IA) {j : Nat} (hj : j < 4) : gW G ad (fun z => cw G ad lf chM chR chN chK md sp dS dL dR dF dP lS lL lR lF lP sS sL sT sD sM sX (va_up mk j z) si sl sf ss) (26 + 2 * j) := by
  match j, hj with
  | 0, _ => exact fun z => ⟨⟨rfl, rfl⟩, fun _ => rfl⟩
  | 1, _ => exact fun z => ⟨⟨rfl, rfl⟩, fun _ => rfl⟩
  | 2, _ => exact fun z => ⟨⟨rfl, rfl⟩, fun _ => rfl⟩
  | 3, _ => exact fun z => ⟨⟨rfl, rfl⟩, fun _ => rfl⟩
theorem cw_shR (G : GG) (ad : Nat → Nat) (lf : Int32) (chM : IA) (chR : IA) (chN : Int32) (chK : Int32) (md : IA) (sp : IA) (dS : IA) (dL : IA) (dR : IA) (dF : IA) (dP : Int32) (lS : IA) (lL : IA) (lR : IA) (lF : IA) (lP : Int32) (sS : IA) (sL : IA) (sT : Int32) (sD : Int32) (sM : Int32) (sX : Int32) (mk : Nat → IA) (si : Nat → IA) (sl : IA) (sf : IA) (ss : IA) {j : Nat} (hj : j < 4) : sR G ad (cw G ad lf chM chR chN chK md sp dS dL dR dF dP lS lL lR lF lP sS sL sT sD sM sX mk si sl sf ss) (34 + 2 * j) (si j) (sl j) (sf j) (ss j) := by
  match j, hj with
  | 0, _ => exact ⟨rfl, rfl⟩
  | 1, _ => exact ⟨rfl, rfl⟩
  | 2, _ => exact ⟨rfl, rfl⟩
  | 3, _ => exact ⟨rfl, rfl⟩
theorem cw_shW (G : GG) (ad : Nat → Nat) (lf : Int32) (chM : IA) (chR : IA) (chN : Int32) (chK : Int32) (md : IA) (sp : IA) (dS : IA) (dL : IA) (dR : IA) (dF : IA) (dP : Int32) (lS : IA) (lL : IA) (lR : IA) (lF : IA) (lP : Int32) (sS : IA) (sL : IA) (sT : Int32) (sD : Int32) (sM : Int32) (sX : Int32) (mk : Nat → IA) (si : Nat → IA) (sl : IA) (sf : IA) (ss : IA) {j : Nat} (hj : j < 4) : sW G ad (fun z0 z1 z2 z3 => cw G ad lf chM chR chN chK md sp dS dL dR dF dP lS lL lR lF lP sS sL sT sD sM sX mk (va_up si j z0) (va_up sl j z1) (va_up sf j z2) (va_up ss j z3)) (34 + 2 * j) := by
  match j, hj with
  | 0, _ => exact fun z0 z1 z2 z3 => ⟨⟨rfl, rfl⟩, fun _ => rfl, fun _ => rfl, fun _ => rfl, fun _ => rfl⟩
  | 1, _ => exact fun z0 z1 z2 z3 => ⟨⟨rfl, rfl⟩, fun _ => rfl, fun _ => rfl, fun _ => rfl, fun _ => rfl⟩
  | 2, _ => exact fun z0 z1 z2 z3 => ⟨⟨rfl, rfl⟩, fun _ => rfl, fun _ => rfl, fun _ => rfl, fun _ => rfl⟩
  | 3, _ => exact fun z0 z1 z2 z3 => ⟨⟨rfl, rfl⟩, fun _ => rfl, fun _ => rfl, fun _ => rfl, fun _ => rfl⟩
