section
/-! ===== the library's own names of binary numbers ===== -/
theorem val64_probe (x : UInt64) : FP.Core.val64 x = FP.Core.val64 x := rfl
end
