section
theorem zz_test : nI 3 = 3 := by decide +kernel
end
