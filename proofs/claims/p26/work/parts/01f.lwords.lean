set_option maxRecDepth 100000 in
theorem tw_363 : Cond.code ⟨"PointAnswersLaw", "points", "(LPointAnswers;[I[I[I[I[I[I[I[I[I)Z"⟩ method_7_code 19 (some .boolean) ∈ wT := tw 363 rfl rfl
set_option maxRecDepth 100000 in
theorem tw_443 : Cond.code ⟨"PointAnswersLaw", "tries", "(LPointAnswers;[I[I[I[I[I[I[I[I)Z"⟩ method_8_code 22 (some .boolean) ∈ wT := tw 443 rfl rfl
