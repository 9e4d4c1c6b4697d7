theorem t0 : goodWord (.arrayOver (.array .int)) = true := by decide +kernel
theorem t1 : goodWord (.arrayOver (.object RX8)) = true := by decide +kernel
theorem t2 (y b l r h) : goodWord (.codeWith y b l r h) = true := rfl
theorem t3 (a b c) : goodWord (.stringRef a b c) = true := rfl
theorem t4 (a b) : goodWord (.native a) = true := rfl
