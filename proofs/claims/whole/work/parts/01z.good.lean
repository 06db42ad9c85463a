set_option maxRecDepth 20000 in
theorem hw_good : wsL_law.all goodWord = true := by decide +kernel
