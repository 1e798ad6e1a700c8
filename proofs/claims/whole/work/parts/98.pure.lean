/-! ===== the machine's run from the start ===== -/
