theorem pu_law : pu_Law := pu_law9
