/-! Counts of bits. -/
def pcF (n : Nat) : Nat :=
  let x1 := n - ((n >>> 1) &&& 1431655765)
  let x2 := (x1 &&& 858993459) + ((x1 >>> 2) &&& 858993459)
  let x3 := (x2 + (x2 >>> 4)) &&& 252645135
  let x4 := x3 + (x3 >>> 8)
  let x5 := x4 + (x4 >>> 16)
  x5 &&& 63
def ct16 (n : Nat) : Nat := n % 2 + n / 2 % 2 + n / 4 % 2 + n / 8 % 2 + n / 16 % 2 + n / 32 % 2 + n / 64 % 2 + n / 128 % 2 + n / 256 % 2 + n / 512 % 2 + n / 1024 % 2 + n / 2048 % 2 + n / 4096 % 2 + n / 8192 % 2 + n / 16384 % 2 + n / 32768 % 2
theorem pc_all : (List.range 256).all (fun a => (List.range 256).all (fun b => pcF (256 * a + b) == ct16 (256 * a + b) && decide ((256 * a + b) >>> 1 &&& 1431655765 ≤ 256 * a + b))) = true := by decide +kernel
theorem pc_ok {n : Nat} (h : n < 65536) : pcF n = ct16 n ∧ (n >>> 1 &&& 1431655765) ≤ n := by
  have h1 := List.all_eq_true.mp (List.all_eq_true.mp pc_all (n / 256) (List.mem_range.mpr (by omega))) (n % 256) (List.mem_range.mpr (by omega))
  have e : 256 * (n / 256) + n % 256 = n := by omega
  rw [e] at h1
  simpa using h1
