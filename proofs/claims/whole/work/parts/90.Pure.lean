theorem pure_main (L : Nat) (xs : Nat → Int32) (hL : L ≤ 3072) : w_L_law_23 () L xs 513 0 gS0 := sorry
