/-! What holds between two calls. -/
def adj (a b : Nat) : Prop := a < 256 ∧ b < 256 ∧ ((a / 16 = b / 16 ∧ (a % 16 + 1 = b % 16 ∨ b % 16 + 1 = a % 16)) ∨ (a % 16 = b % 16 ∧ (a / 16 + 1 = b / 16 ∨ b / 16 + 1 = a / 16)))
def dc (d : Nat → Nat → Bool) (c : Nat) : Bool := decide (c < 256) && d (c % 16) (c / 16)
/-- b is come to from a over cells of p -/
def Conn (p : Nat → Bool) (a b : Nat) : Prop := ∀ S : Nat → Prop, S a → (∀ x y, S x → adj x y → p y = true → S y) → S b
def IsLab (p : Nat → Bool) (lab : IA) (n : Nat) : Prop :=
  (∀ c, c < 256 → p c = false → lab c = (-1)) ∧ (∀ c, c < 256 → p c = true → ∃ k, k < n ∧ lab c = nI k) ∧
  (∀ c c', c < 256 → c' < 256 → p c = true → p c' = true → (lab c = lab c' ↔ Conn p c c')) ∧
  (∀ c k, c < 256 → k < n → lab c = nI k → ∀ j, j < k → ∃ c', c' < c ∧ lab c' = nI j) ∧
  (∀ k, k < n → ∃ c, c < 256 ∧ lab c = nI k)
/-- how many sides of a cell have no cell of p on the other side -/
def sides (d : Nat → Nat → Bool) (c : Nat) : Nat := (if d (c % 16 + 1) (c / 16) then 0 else 1) + (if (decide (0 < c % 16) && d (c % 16 - 1) (c / 16)) then 0 else 1) + (if d (c % 16) (c / 16 + 1) then 0 else 1) + (if (decide (0 < c / 16) && d (c % 16) (c / 16 - 1)) then 0 else 1)
def isLeast (P : Nat → Prop) (g : Nat → Nat) (v : Int32) : Prop := ∃ c, c < 256 ∧ P c ∧ v = nI (g c) ∧ ∀ c', c' < 256 → P c' → g c ≤ g c'
def isMost (P : Nat → Prop) (g : Nat → Nat) (v : Int32) : Prop := ∃ c, c < 256 ∧ P c ∧ v = nI (g c) ∧ ∀ c', c' < 256 → P c' → g c' ≤ g c
def FigOK (d : Nat → Nat → Bool) (lab fig : IA) (n : Nat) : Prop := ∀ k, k < n →
  fig (6 * k) = nI (fb_ct (fun c => decide (lab c = nI k)) 256) ∧ fig (6 * k + 1) = nI (fb_sm (fun c => if lab c = nI k then sides d c else 0) 256) ∧
  isLeast (fun c => lab c = nI k) (fun c => c % 16) (fig (6 * k + 2)) ∧ isLeast (fun c => lab c = nI k) (fun c => c / 16) (fig (6 * k + 3)) ∧
  isMost (fun c => lab c = nI k) (fun c => c % 16) (fig (6 * k + 4)) ∧ isMost (fun c => lab c = nI k) (fun c => c / 16) (fig (6 * k + 5))
def PartsOK (S L F : IA) (P : Int32) : Prop := g16 S ∧ ∃ n, n ≤ 128 ∧ P = nI n ∧ IsLab (dc (dk S)) L n ∧ FigOK (dk S) L F n
def uni (d : Nat → Nat → Bool) (s x y : Nat) : Bool := decide (∀ i, i < s → ∀ j, j < s → d (x + i) (y + j) = d x y)
/-- the signs of a square of side 2 ^ L -/
def sq (d : Nat → Nat → Bool) : Nat → Nat → Nat → List Nat
  | 0, x, y => [if d x y then 1 else 0]
  | L + 1, x, y => if uni d (2 ^ (L + 1)) x y then [if d x y then 1 else 0] else 2 :: (sq d L x y ++ (sq d L (x + 2 ^ L) y ++ (sq d L x (y + 2 ^ L) ++ sq d L (x + 2 ^ L) (y + 2 ^ L))))
def dpt (d : Nat → Nat → Bool) : Nat → Nat → Nat → Nat
  | 0, _, _ => 0
  | L + 1, x, y => if uni d (2 ^ (L + 1)) x y then 0 else 1 + max (max (dpt d L x y) (dpt d L (x + 2 ^ L) y)) (max (dpt d L x (y + 2 ^ L)) (dpt d L (x + 2 ^ L) (y + 2 ^ L)))
def nums (L : IA) (l : List Nat) : Prop := ∀ i, i < l.length → L i = nI (l.getD i 0)
def SignsOK (S L : IA) (T D M X : Int32) : Prop := g16 S ∧ T = nI (sq (dk S) 4 0 0).length ∧ nums L (sq (dk S) 4 0 0) ∧ D = nI ((sq (dk S) 4 0 0).count 1) ∧ M = nI ((sq (dk S) 4 0 0).count 2) ∧ X = nI (dpt (dk S) 4 0 0)
def ShOK (si : Nat → IA) (sl sf ss forms sizes items : IA) : Prop := ∀ s, s < 4 → (sl s = 1 ∧ forms s = (-1)) ∨
  (sl s = 0 ∧ ∃ f n : Nat, f < 3 ∧ n ≤ 60 ∧ sf s = nI f ∧ forms s = nI f ∧ ss s = nI n ∧ sizes s = nI n ∧ ∀ i, i < n → si s i = items (60 * s + i))
abbrev Inv (lf : Int32) (chM : IA) (chR : IA) (chN : Int32) (chK : Int32) (md : IA) (sp : IA) (dS : IA) (dL : IA) (dR : IA) (dF : IA) (dP : Int32) (lS : IA) (lL : IA) (lR : IA) (lF : IA) (lP : Int32) (sS : IA) (sL : IA) (sT : Int32) (sD : Int32) (sM : Int32) (sX : Int32) (mk : Nat → IA) (si : Nat → IA) (sl : IA) (sf : IA) (ss : IA) (forms : IA) (sizes : IA) (items : IA) (moved : IA) (latest : Int32) (rows : IA) (fresh : IA) (oldMask : IA) (oldRows : IA) (known : Int32) (drawn : Int32) (label : IA) (pile : IA) (parts : Int32) (waitX : IA) (waitY : IA) (waitSide : IA) (waits : Int32) (sign : IA) (signs : Int32) (many : IA) : Prop :=
  lf = latest ∧ HistOK chM chR chN chK oldMask oldRows known ∧ MaskOK mk rows ∧ ShOK si sl sf ss forms sizes items ∧ PartsOK dS dL dF dP ∧ PartsOK lS lL lF lP ∧ SignsOK sS sL sT sD sM sX
