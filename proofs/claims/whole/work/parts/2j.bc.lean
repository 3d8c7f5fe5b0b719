/-! how many bits, by the kernel over all sets of squares -/
def bc1 (x : Nat) : Nat := x - ((x / 2 ^ 1) &&& 1431655765)
def bc2 (y : Nat) : Nat := (y &&& 858993459) + ((y / 2 ^ 2) &&& 858993459)
def bc3 (z : Nat) : Nat := (z + z / 2 ^ 4) &&& 252645135
def bc4 (u : Nat) : Nat := u + u / 2 ^ 8
def bc5 (v : Nat) : Nat := (v + v / 2 ^ 16) &&& 63
def pcn (x : Nat) : Nat := fb_ct (fun s => x.testBit s) 16
theorem bc_ok0 : ∀ a, a < 16 → ∀ b, b < 256 → bc5 (bc4 (bc3 (bc2 (bc1 (256 * (0 + a) + b))))) = pcn (256 * (0 + a) + b) := by decide +kernel
theorem bc_ok1 : ∀ a, a < 16 → ∀ b, b < 256 → bc5 (bc4 (bc3 (bc2 (bc1 (256 * (16 + a) + b))))) = pcn (256 * (16 + a) + b) := by decide +kernel
theorem bc_ok2 : ∀ a, a < 16 → ∀ b, b < 256 → bc5 (bc4 (bc3 (bc2 (bc1 (256 * (32 + a) + b))))) = pcn (256 * (32 + a) + b) := by decide +kernel
theorem bc_ok3 : ∀ a, a < 16 → ∀ b, b < 256 → bc5 (bc4 (bc3 (bc2 (bc1 (256 * (48 + a) + b))))) = pcn (256 * (48 + a) + b) := by decide +kernel
theorem bc_ok4 : ∀ a, a < 16 → ∀ b, b < 256 → bc5 (bc4 (bc3 (bc2 (bc1 (256 * (64 + a) + b))))) = pcn (256 * (64 + a) + b) := by decide +kernel
theorem bc_ok5 : ∀ a, a < 16 → ∀ b, b < 256 → bc5 (bc4 (bc3 (bc2 (bc1 (256 * (80 + a) + b))))) = pcn (256 * (80 + a) + b) := by decide +kernel
theorem bc_ok6 : ∀ a, a < 16 → ∀ b, b < 256 → bc5 (bc4 (bc3 (bc2 (bc1 (256 * (96 + a) + b))))) = pcn (256 * (96 + a) + b) := by decide +kernel
theorem bc_ok7 : ∀ a, a < 16 → ∀ b, b < 256 → bc5 (bc4 (bc3 (bc2 (bc1 (256 * (112 + a) + b))))) = pcn (256 * (112 + a) + b) := by decide +kernel
theorem bc_ok8 : ∀ a, a < 16 → ∀ b, b < 256 → bc5 (bc4 (bc3 (bc2 (bc1 (256 * (128 + a) + b))))) = pcn (256 * (128 + a) + b) := by decide +kernel
theorem bc_ok9 : ∀ a, a < 16 → ∀ b, b < 256 → bc5 (bc4 (bc3 (bc2 (bc1 (256 * (144 + a) + b))))) = pcn (256 * (144 + a) + b) := by decide +kernel
theorem bc_ok10 : ∀ a, a < 16 → ∀ b, b < 256 → bc5 (bc4 (bc3 (bc2 (bc1 (256 * (160 + a) + b))))) = pcn (256 * (160 + a) + b) := by decide +kernel
theorem bc_ok11 : ∀ a, a < 16 → ∀ b, b < 256 → bc5 (bc4 (bc3 (bc2 (bc1 (256 * (176 + a) + b))))) = pcn (256 * (176 + a) + b) := by decide +kernel
theorem bc_ok12 : ∀ a, a < 16 → ∀ b, b < 256 → bc5 (bc4 (bc3 (bc2 (bc1 (256 * (192 + a) + b))))) = pcn (256 * (192 + a) + b) := by decide +kernel
theorem bc_ok13 : ∀ a, a < 16 → ∀ b, b < 256 → bc5 (bc4 (bc3 (bc2 (bc1 (256 * (208 + a) + b))))) = pcn (256 * (208 + a) + b) := by decide +kernel
theorem bc_ok14 : ∀ a, a < 16 → ∀ b, b < 256 → bc5 (bc4 (bc3 (bc2 (bc1 (256 * (224 + a) + b))))) = pcn (256 * (224 + a) + b) := by decide +kernel
theorem bc_ok15 : ∀ a, a < 16 → ∀ b, b < 256 → bc5 (bc4 (bc3 (bc2 (bc1 (256 * (240 + a) + b))))) = pcn (256 * (240 + a) + b) := by decide +kernel
theorem bc_ok {x : Nat} (hx : x < 65536) : bc5 (bc4 (bc3 (bc2 (bc1 x)))) = pcn x := by
  have hq : x / 4096 < 16 := by omega
  have e : ∀ i, x / 4096 = i → 256 * (16 * i + x / 256 % 16) + x % 256 = x := fun i hi => by omega
  have h1 : x / 256 % 16 < 16 := Nat.mod_lt _ (by decide)
  have h2 : x % 256 < 256 := Nat.mod_lt _ (by decide)
  have key : x / 4096 = 0 ∨ x / 4096 = 1 ∨ x / 4096 = 2 ∨ x / 4096 = 3 ∨ x / 4096 = 4 ∨ x / 4096 = 5 ∨ x / 4096 = 6 ∨ x / 4096 = 7 ∨ x / 4096 = 8 ∨ x / 4096 = 9 ∨ x / 4096 = 10 ∨ x / 4096 = 11 ∨ x / 4096 = 12 ∨ x / 4096 = 13 ∨ x / 4096 = 14 ∨ x / 4096 = 15 := by omega
  rcases key with k0 | k1 | k2 | k3 | k4 | k5 | k6 | k7 | k8 | k9 | k10 | k11 | k12 | k13 | k14 | k15
  · have h := bc_ok0 _ h1 _ h2
    rw [show 256 * (0 + x / 256 % 16) + x % 256 = x from e 0 k0] at h
    exact h
  · have h := bc_ok1 _ h1 _ h2
    rw [show 256 * (16 + x / 256 % 16) + x % 256 = x from e 1 k1] at h
    exact h
  · have h := bc_ok2 _ h1 _ h2
    rw [show 256 * (32 + x / 256 % 16) + x % 256 = x from e 2 k2] at h
    exact h
  · have h := bc_ok3 _ h1 _ h2
    rw [show 256 * (48 + x / 256 % 16) + x % 256 = x from e 3 k3] at h
    exact h
  · have h := bc_ok4 _ h1 _ h2
    rw [show 256 * (64 + x / 256 % 16) + x % 256 = x from e 4 k4] at h
    exact h
  · have h := bc_ok5 _ h1 _ h2
    rw [show 256 * (80 + x / 256 % 16) + x % 256 = x from e 5 k5] at h
    exact h
  · have h := bc_ok6 _ h1 _ h2
    rw [show 256 * (96 + x / 256 % 16) + x % 256 = x from e 6 k6] at h
    exact h
  · have h := bc_ok7 _ h1 _ h2
    rw [show 256 * (112 + x / 256 % 16) + x % 256 = x from e 7 k7] at h
    exact h
  · have h := bc_ok8 _ h1 _ h2
    rw [show 256 * (128 + x / 256 % 16) + x % 256 = x from e 8 k8] at h
    exact h
  · have h := bc_ok9 _ h1 _ h2
    rw [show 256 * (144 + x / 256 % 16) + x % 256 = x from e 9 k9] at h
    exact h
  · have h := bc_ok10 _ h1 _ h2
    rw [show 256 * (160 + x / 256 % 16) + x % 256 = x from e 10 k10] at h
    exact h
  · have h := bc_ok11 _ h1 _ h2
    rw [show 256 * (176 + x / 256 % 16) + x % 256 = x from e 11 k11] at h
    exact h
  · have h := bc_ok12 _ h1 _ h2
    rw [show 256 * (192 + x / 256 % 16) + x % 256 = x from e 12 k12] at h
    exact h
  · have h := bc_ok13 _ h1 _ h2
    rw [show 256 * (208 + x / 256 % 16) + x % 256 = x from e 13 k13] at h
    exact h
  · have h := bc_ok14 _ h1 _ h2
    rw [show 256 * (224 + x / 256 % 16) + x % 256 = x from e 14 k14] at h
    exact h
  · have h := bc_ok15 _ h1 _ h2
    rw [show 256 * (240 + x / 256 % 16) + x % 256 = x from e 15 k15] at h
    exact h
