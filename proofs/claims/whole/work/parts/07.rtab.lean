-- the classes' tables
theorem zcl {c : Nat} (hc : c < 13) : vwCl[c]? = some (zRX c, zTX c, zN c) := by
  match c, hc with
  | 0, _ => rfl
  | 1, _ => rfl
  | 2, _ => rfl
  | 3, _ => rfl
  | 4, _ => rfl
  | 5, _ => rfl
  | 6, _ => rfl
  | 7, _ => rfl
  | 8, _ => rfl
  | 9, _ => rfl
  | 10, _ => rfl
  | 11, _ => rfl
  | 12, _ => rfl
theorem zty {c : Nat} (hc : c < 13) : ∀ k, k < zN c → parseFieldDescriptor (zTX c k).2.2.1 = some (zft (zT c k)) := by
  match c, hc with
  | 0, _ => exact (by decide +kernel)
  | 1, _ => exact (by decide +kernel)
  | 2, _ => exact (by decide +kernel)
  | 3, _ => exact (by decide +kernel)
  | 4, _ => exact (by decide +kernel)
  | 5, _ => exact (by decide +kernel)
  | 6, _ => exact (by decide +kernel)
  | 7, _ => exact (by decide +kernel)
  | 8, _ => exact (by decide +kernel)
  | 9, _ => exact (by decide +kernel)
  | 10, _ => exact (by decide +kernel)
  | 11, _ => exact (by decide +kernel)
  | 12, _ => exact (by decide +kernel)
theorem ztc {c : Nat} (hc : c < 13) : ∀ k, k < zN c → (zT c k < 3 ∨ 10 ≤ zT c k) := by
  match c, hc with
  | 0, _ => exact (by decide +kernel)
  | 1, _ => exact (by decide +kernel)
  | 2, _ => exact (by decide +kernel)
  | 3, _ => exact (by decide +kernel)
  | 4, _ => exact (by decide +kernel)
  | 5, _ => exact (by decide +kernel)
  | 6, _ => exact (by decide +kernel)
  | 7, _ => exact (by decide +kernel)
  | 8, _ => exact (by decide +kernel)
  | 9, _ => exact (by decide +kernel)
  | 10, _ => exact (by decide +kernel)
  | 11, _ => exact (by decide +kernel)
  | 12, _ => exact (by decide +kernel)
theorem znm {c : Nat} (hc : c < 13) : ∀ a, a < zN c → ∀ b, b < zN c → a ≠ b → (zTX c a).2.1 ≠ (zTX c b).2.1 := by
  match c, hc with
  | 0, _ => exact nmX0
  | 1, _ => exact nmX1
  | 2, _ => exact nmX2
  | 3, _ => exact nmX3
  | 4, _ => exact nmX4
  | 5, _ => exact nmX5
  | 6, _ => exact nmX6
  | 7, _ => exact nmX7
  | 8, _ => exact nmX8
  | 9, _ => exact nmX9
  | 10, _ => exact nmX10
  | 11, _ => exact nmX11
  | 12, _ => exact nmX12
theorem zin {c : Nat} (hc : c < 13) : ∀ w ∈ u_ws (zRX c) (zTX c) (zN c), w ∈ zTbl := by
  match c, hc with
  | 0, _ => exact fun w hw => (show ∀ w ∈ wsX00, w ∈ zTbl from (by decide +kernel)) w hw
  | 1, _ => exact fun w hw => (show ∀ w ∈ wsX10, w ∈ zTbl from (by decide +kernel)) w hw
  | 2, _ => exact fun w hw => (show ∀ w ∈ wsX20, w ∈ zTbl from (by decide +kernel)) w hw
  | 3, _ => exact fun w hw => (show ∀ w ∈ wsX30, w ∈ zTbl from (by decide +kernel)) w hw
  | 4, _ => exact fun w hw => (show ∀ w ∈ wsX40, w ∈ zTbl from (by decide +kernel)) w hw
  | 5, _ => exact fun w hw => (show ∀ w ∈ wsX50, w ∈ zTbl from (by decide +kernel)) w hw
  | 6, _ => exact fun w hw => (show ∀ w ∈ wsX60, w ∈ zTbl from (by decide +kernel)) w hw
  | 7, _ => exact fun w hw => (show ∀ w ∈ wsX70, w ∈ zTbl from (by decide +kernel)) w hw
  | 8, _ => exact fun w hw => (show ∀ w ∈ wsX80, w ∈ zTbl from (by decide +kernel)) w hw
  | 9, _ => exact fun w hw => (show ∀ w ∈ wsX90, w ∈ zTbl from (by decide +kernel)) w hw
  | 10, _ => exact fun w hw => (show ∀ w ∈ wsX100, w ∈ zTbl from (by decide +kernel)) w hw
  | 11, _ => exact fun w hw => (show ∀ w ∈ wsX110, w ∈ zTbl from (by decide +kernel)) w hw
  | 12, _ => exact fun w hw => (show ∀ w ∈ wsX120, w ∈ zTbl from (by decide +kernel)) w hw
