/-! How many bits -/
def pv_bc (x : Int32) : Int32 := ((xf_In_bitCount (fun _ _ => 0) x).getD (0, fun _ _ => 0)).1
theorem pv_bc_eq (g : qa_St) (x : Int32) : xf_In_bitCount g x = some (pv_bc x, g) := rfl
theorem pv_bc_count : ∀ n, n < 1024 → (pv_bc (Int32.ofNat n)).toInt = (((List.range 10).countP (fun k => decide (pv_bit (Int32.ofNat n) k)) : Nat) : Int) := by decide +kernel
