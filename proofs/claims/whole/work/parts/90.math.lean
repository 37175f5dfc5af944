theorem q_math_holds : q_math := sorry
