theorem tt1 : goodWord (.fieldLinkNest "A" 1 "B" "c" "I" "A") = true := by decide +kernel
theorem tt2 : goodWord (.methodLinkNest "A" 1 ⟨"B", "c", "()V"⟩ "A") = true := by decide +kernel
theorem tt3 : goodWord (.stringRef "A" 1 "B") = true := by decide +kernel
theorem tt4 : goodWord (.selects "A" ⟨"B", "c", "()V"⟩ ⟨"B", "c", "()V"⟩) = true := by decide +kernel
theorem tt5 : goodWord (.arrayOver (.object "A")) = true := by decide +kernel
theorem tt6 : goodWord (.constantLong "A" 1 4) = true := by decide +kernel
theorem tt7 : (tables_1.filter (fun w => !goodWord w)).length = 5 := by decide +kernel
