theorem st_best : St3 Rel fX7_best fX8_best := sorry
