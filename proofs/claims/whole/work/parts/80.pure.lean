theorem pu_law : pu_Law := sorry
