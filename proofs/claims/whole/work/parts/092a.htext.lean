/-! ===== the direct form ===== -/

