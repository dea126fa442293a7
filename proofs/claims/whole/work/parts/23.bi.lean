section
theorem b0_18 {xs : Nat → Int32} {xl : Nat} {I J : w_I} {b : Bool} {Q : Option Value → w_I → w_I → Bool → Prop} {l3 : Int} (k : ((-2147483648 ≤ l3 ∧ l3 < 2147483648) ∧ (-2147483648 ≤ (xl : Int) - 6 ∧ (xl : Int) - 6 < 2147483648) ∧ (((xl : Int) - 6 < l3 → Q (some (w_i 1)) I J b) ∧ (¬ (xl : Int) - 6 < l3 → ((0 ≤ l3 ∧ l3 < (xl : Int)) ∧ xl ≤ 100000 ∧ ((-2147483648 ≤ w_and (w_s xs l3) 63 ∧ w_and (w_s xs l3) 63 < 2147483648) ∧ ((w_and (w_s xs l3) 63 = 0 → ((0 ≤ l3 + 1 ∧ l3 + 1 < (xl : Int)) ∧ ((0 ≤ l3 + 2 ∧ l3 + 2 < (xl : Int)) ∧ ((0 ≤ l3 + 3 ∧ l3 + 3 < (xl : Int)) ∧ ((0 ≤ l3 + 4 ∧ l3 + 4 < (xl : Int)) ∧ ((0 ≤ l3 + 5 ∧ l3 + 5 < (xl : Int)) ∧ w_C xs xl 119 [.ref 0, w_i (w_s xs (l3 + 1)), w_i (w_s xs (l3 + 2)), w_i (w_s xs (l3 + 3)), w_i (w_s xs (l3 + 4)), w_i (w_s xs (l3 + 5))] I J b (fun v Ic Jc bc => w_T xs xl 0 221 [some (.ref 100000), some (.ref 0), some (.ref 104), some (w_i l3)] [] (w_pv v []) Ic Jc bc Q))))))) ∧ (¬ w_and (w_s xs l3) 63 = 0 → ((w_and (w_s xs l3) 63 = 1 → ((0 ≤ l3 + 1 ∧ l3 + 1 < (xl : Int)) ∧ w_C xs xl 120 [.ref 0, w_i (w_s xs (l3 + 1))] I J b (fun v Ic Jc bc => w_T xs xl 0 264 [some (.ref 100000), some (.ref 0), some (.ref 104), some (w_i l3)] [] (w_pv v []) Ic Jc bc Q))) ∧ (¬ w_and (w_s xs l3) 63 = 1 → ((w_and (w_s xs l3) 63 = 2 → w_C xs xl 121 [.ref 0] I J b (fun v Ic Jc bc => w_T xs xl 0 282 [some (.ref 100000), some (.ref 0), some (.ref 104), some (w_i l3)] [] (w_pv v []) Ic Jc bc Q)) ∧ (¬ w_and (w_s xs l3) 63 = 2 → ((w_and (w_s xs l3) 63 = 3 → w_C xs xl 122 [.ref 0] I J b (fun v Ic Jc bc => w_T xs xl 0 295 [some (.ref 100000), some (.ref 0), some (.ref 104), some (w_i l3)] [] (w_pv v []) Ic Jc bc Q)) ∧ (¬ w_and (w_s xs l3) 63 = 3 → ((w_and (w_s xs l3) 63 = 4 → ((0 ≤ l3 + 1 ∧ l3 + 1 < (xl : Int)) ∧ ((0 ≤ l3 + 2 ∧ l3 + 2 < (xl : Int)) ∧ w_C xs xl 123 [.ref 0, w_i (w_s xs (l3 + 1)), w_i (w_s xs (l3 + 2))] I J b (fun v Ic Jc bc => w_T xs xl 0 318 [some (.ref 100000), some (.ref 0), some (.ref 104), some (w_i l3)] [] (w_pv v []) Ic Jc bc Q)))) ∧ (¬ w_and (w_s xs l3) 63 = 4 → ((w_and (w_s xs l3) 63 = 5 → ((0 ≤ l3 + 1 ∧ l3 + 1 < (xl : Int)) ∧ ((0 ≤ l3 + 2 ∧ l3 + 2 < (xl : Int)) ∧ ((0 ≤ l3 + 3 ∧ l3 + 3 < (xl : Int)) ∧ ((-2147483648 ≤ w_s xs (l3 + 3) ∧ w_s xs (l3 + 3) < 2147483648) ∧ ((w_s xs (l3 + 3) = 0 → w_C xs xl 124 [.ref 0, w_i (w_s xs (l3 + 1)), w_i (w_s xs (l3 + 2)), w_i 0] I J b (fun v Ic Jc bc => w_T xs xl 0 364 [some (.ref 100000), some (.ref 0), some (.ref 104), some (w_i l3)] [] (w_pv v []) Ic Jc bc Q)) ∧ (¬ w_s xs (l3 + 3) = 0 → w_C xs xl 124 [.ref 0, w_i (w_s xs (l3 + 1)), w_i (w_s xs (l3 + 2)), w_i 1] I J b (fun v Ic Jc bc => w_T xs xl 0 364 [some (.ref 100000), some (.ref 0), some (.ref 104), some (w_i l3)] [] (w_pv v []) Ic Jc bc Q)))))))) ∧ (¬ w_and (w_s xs l3) 63 = 5 → ((w_and (w_s xs l3) 63 = 6 → ((0 ≤ l3 + 1 ∧ l3 + 1 < (xl : Int)) ∧ ((0 ≤ l3 + 2 ∧ l3 + 2 < (xl : Int)) ∧ w_C xs xl 125 [.ref 0, w_i (w_s xs (l3 + 1)), w_i (w_s xs (l3 + 2))] I J b (fun v Ic Jc bc => w_T xs xl 0 410 [some (.ref 100000), some (.ref 0), some (.ref 104), some (w_i l3)] [] (w_pv v []) Ic Jc bc Q)))) ∧ (¬ w_and (w_s xs l3) 63 = 6 → ((w_and (w_s xs l3) 63 = 7 → ((0 ≤ l3 + 1 ∧ l3 + 1 < (xl : Int)) ∧ w_C xs xl 126 [.ref 0, w_i (w_s xs (l3 + 1))] I J b (fun v Ic Jc bc => w_T xs xl 0 438 [some (.ref 100000), some (.ref 0), some (.ref 104), some (w_i l3)] [] (w_pv v []) Ic Jc bc Q))) ∧ (¬ w_and (w_s xs l3) 63 = 7 → ((w_and (w_s xs l3) 63 = 8 → ((0 ≤ l3 + 1 ∧ l3 + 1 < (xl : Int)) ∧ ((0 ≤ l3 + 2 ∧ l3 + 2 < (xl : Int)) ∧ w_C xs xl 127 [.ref 0, w_i (w_s xs (l3 + 1)), w_i (w_s xs (l3 + 2))] I J b (fun v Ic Jc bc => w_T xs xl 0 466 [some (.ref 100000), some (.ref 0), some (.ref 104), some (w_i l3)] [] (w_pv v []) Ic Jc bc Q)))) ∧ (¬ w_and (w_s xs l3) 63 = 8 → ((w_and (w_s xs l3) 63 = 9 → ((0 ≤ l3 + 1 ∧ l3 + 1 < (xl : Int)) ∧ ((0 ≤ l3 + 2 ∧ l3 + 2 < (xl : Int)) ∧ w_C xs xl 128 [.ref 0, w_i (w_s xs (l3 + 1)), w_i (w_s xs (l3 + 2))] I J b (fun v Ic Jc bc => w_T xs xl 0 499 [some (.ref 100000), some (.ref 0), some (.ref 104), some (w_i l3)] [] (w_pv v []) Ic Jc bc Q)))) ∧ (¬ w_and (w_s xs l3) 63 = 9 → ((w_and (w_s xs l3) 63 = 10 → ((0 ≤ l3 + 1 ∧ l3 + 1 < (xl : Int)) ∧ ((0 ≤ l3 + 2 ∧ l3 + 2 < (xl : Int)) ∧ w_C xs xl 129 [.ref 0, w_i (w_s xs (l3 + 1)), w_i (w_s xs (l3 + 2))] I J b (fun v Ic Jc bc => w_T xs xl 0 532 [some (.ref 100000), some (.ref 0), some (.ref 104), some (w_i l3)] [] (w_pv v []) Ic Jc bc Q)))) ∧ (¬ w_and (w_s xs l3) 63 = 10 → ((w_and (w_s xs l3) 63 = 11 → ((0 ≤ l3 + 1 ∧ l3 + 1 < (xl : Int)) ∧ ((0 ≤ l3 + 2 ∧ l3 + 2 < (xl : Int)) ∧ w_C xs xl 130 [.ref 0, w_i (w_s xs (l3 + 1)), w_i (w_s xs (l3 + 2))] I J b (fun v Ic Jc bc => w_T xs xl 0 565 [some (.ref 100000), some (.ref 0), some (.ref 104), some (w_i l3)] [] (w_pv v []) Ic Jc bc Q)))) ∧ (¬ w_and (w_s xs l3) 63 = 11 → ((w_and (w_s xs l3) 63 = 12 → ((0 ≤ l3 + 1 ∧ l3 + 1 < (xl : Int)) ∧ w_C xs xl 131 [.ref 0, w_i (w_s xs (l3 + 1))] I J b (fun v Ic Jc bc => w_T xs xl 0 593 [some (.ref 100000), some (.ref 0), some (.ref 104), some (w_i l3)] [] (w_pv v []) Ic Jc bc Q))) ∧ (¬ w_and (w_s xs l3) 63 = 12 → ((w_and (w_s xs l3) 63 = 13 → ((0 ≤ l3 + 1 ∧ l3 + 1 < (xl : Int)) ∧ w_C xs xl 132 [.ref 0, w_i (w_s xs (l3 + 1))] I J b (fun v Ic Jc bc => w_T xs xl 0 616 [some (.ref 100000), some (.ref 0), some (.ref 104), some (w_i l3)] [] (w_pv v []) Ic Jc bc Q))) ∧ (¬ w_and (w_s xs l3) 63 = 13 → ((w_and (w_s xs l3) 63 = 14 → ((0 ≤ l3 + 1 ∧ l3 + 1 < (xl : Int)) ∧ w_C xs xl 133 [.ref 0, w_i (w_s xs (l3 + 1))] I J b (fun v Ic Jc bc => w_T xs xl 0 639 [some (.ref 100000), some (.ref 0), some (.ref 104), some (w_i l3)] [] (w_pv v []) Ic Jc bc Q))) ∧ (¬ w_and (w_s xs l3) 63 = 14 → ((w_and (w_s xs l3) 63 = 15 → ((0 ≤ l3 + 1 ∧ l3 + 1 < (xl : Int)) ∧ w_C xs xl 134 [.ref 0, w_i (w_s xs (l3 + 1))] I J b (fun v Ic Jc bc => w_T xs xl 0 662 [some (.ref 100000), some (.ref 0), some (.ref 104), some (w_i l3)] [] (w_pv v []) Ic Jc bc Q))) ∧ (¬ w_and (w_s xs l3) 63 = 15 → ((w_and (w_s xs l3) 63 = 16 → ((0 ≤ l3 + 1 ∧ l3 + 1 < (xl : Int)) ∧ ((0 ≤ l3 + 2 ∧ l3 + 2 < (xl : Int)) ∧ w_C xs xl 135 [.ref 0, w_i (w_s xs (l3 + 1)), w_i (w_s xs (l3 + 2))] I J b (fun v Ic Jc bc => w_T xs xl 0 690 [some (.ref 100000), some (.ref 0), some (.ref 104), some (w_i l3)] [] (w_pv v []) Ic Jc bc Q)))) ∧ (¬ w_and (w_s xs l3) 63 = 16 → ((w_and (w_s xs l3) 63 = 17 → ((0 ≤ l3 + 1 ∧ l3 + 1 < (xl : Int)) ∧ ((0 ≤ l3 + 2 ∧ l3 + 2 < (xl : Int)) ∧ w_C xs xl 136 [.ref 0, w_i (w_s xs (l3 + 1)), w_i (w_s xs (l3 + 2))] I J b (fun v Ic Jc bc => w_T xs xl 0 723 [some (.ref 100000), some (.ref 0), some (.ref 104), some (w_i l3)] [] (w_pv v []) Ic Jc bc Q)))) ∧ (¬ w_and (w_s xs l3) 63 = 17 → ((w_and (w_s xs l3) 63 = 18 → ((0 ≤ l3 + 1 ∧ l3 + 1 < (xl : Int)) ∧ w_C xs xl 137 [.ref 0, w_i (w_s xs (l3 + 1))] I J b (fun v Ic Jc bc => w_T xs xl 0 751 [some (.ref 100000), some (.ref 0), some (.ref 104), some (w_i l3)] [] (w_pv v []) Ic Jc bc Q))) ∧ (¬ w_and (w_s xs l3) 63 = 18 → ((w_and (w_s xs l3) 63 = 19 → ((0 ≤ l3 + 1 ∧ l3 + 1 < (xl : Int)) ∧ w_C xs xl 138 [.ref 0, w_i (w_s xs (l3 + 1))] I J b (fun v Ic Jc bc => w_T xs xl 0 774 [some (.ref 100000), some (.ref 0), some (.ref 104), some (w_i l3)] [] (w_pv v []) Ic Jc bc Q))) ∧ (¬ w_and (w_s xs l3) 63 = 19 → ((w_and (w_s xs l3) 63 = 20 → w_C xs xl 139 [.ref 0] I J b (fun v Ic Jc bc => w_T xs xl 0 792 [some (.ref 100000), some (.ref 0), some (.ref 104), some (w_i l3)] [] (w_pv v []) Ic Jc bc Q)) ∧ (¬ w_and (w_s xs l3) 63 = 20 → ((w_and (w_s xs l3) 63 = 21 → ((0 ≤ l3 + 1 ∧ l3 + 1 < (xl : Int)) ∧ ((-2147483648 ≤ w_s xs (l3 + 1) ∧ w_s xs (l3 + 1) < 2147483648) ∧ ((w_s xs (l3 + 1) = 0 → w_C xs xl 140 [.ref 0, w_i 0] I J b (fun v Ic Jc bc => w_T xs xl 0 818 [some (.ref 100000), some (.ref 0), some (.ref 104), some (w_i l3)] [] (w_pv v []) Ic Jc bc Q)) ∧ (¬ w_s xs (l3 + 1) = 0 → w_C xs xl 140 [.ref 0, w_i 1] I J b (fun v Ic Jc bc => w_T xs xl 0 818 [some (.ref 100000), some (.ref 0), some (.ref 104), some (w_i l3)] [] (w_pv v []) Ic Jc bc Q)))))) ∧ (¬ w_and (w_s xs l3) 63 = 21 → ((w_and (w_s xs l3) 63 = 22 → w_C xs xl 141 [.ref 0] I J b (fun v Ic Jc bc => w_T xs xl 0 844 [some (.ref 100000), some (.ref 0), some (.ref 104), some (w_i l3)] [] (w_pv v []) Ic Jc bc Q)) ∧ (¬ w_and (w_s xs l3) 63 = 22 → ((w_and (w_s xs l3) 63 = 23 → ((0 ≤ l3 + 1 ∧ l3 + 1 < (xl : Int)) ∧ w_C xs xl 142 [.ref 0, w_i (w_s xs (l3 + 1))] I J b (fun v Ic Jc bc => w_T xs xl 0 862 [some (.ref 100000), some (.ref 0), some (.ref 104), some (w_i l3)] [] (w_pv v []) Ic Jc bc Q))) ∧ (¬ w_and (w_s xs l3) 63 = 23 → ((w_and (w_s xs l3) 63 = 24 → ((0 ≤ l3 + 1 ∧ l3 + 1 < (xl : Int)) ∧ ((0 ≤ l3 + 2 ∧ l3 + 2 < (xl : Int)) ∧ ((0 ≤ l3 + 3 ∧ l3 + 3 < (xl : Int)) ∧ w_C xs xl 143 [.ref 0, w_i (w_s xs (l3 + 1)), w_i (w_s xs (l3 + 2)), w_i (w_s xs (l3 + 3))] I J b (fun v Ic Jc bc => w_T xs xl 0 895 [some (.ref 100000), some (.ref 0), some (.ref 104), some (w_i l3)] [] (w_pv v []) Ic Jc bc Q))))) ∧ (¬ w_and (w_s xs l3) 63 = 24 → ((w_and (w_s xs l3) 63 = 25 → w_C xs xl 144 [.ref 0] I J b (fun v Ic Jc bc => w_T xs xl 0 923 [some (.ref 100000), some (.ref 0), some (.ref 104), some (w_i l3)] [] (w_pv v []) Ic Jc bc Q)) ∧ (¬ w_and (w_s xs l3) 63 = 25 → ((w_and (w_s xs l3) 63 = 26 → w_C xs xl 145 [.ref 0] I J b (fun v Ic Jc bc => w_T xs xl 0 936 [some (.ref 100000), some (.ref 0), some (.ref 104), some (w_i l3)] [] (w_pv v []) Ic Jc bc Q)) ∧ (¬ w_and (w_s xs l3) 63 = 26 → ((w_and (w_s xs l3) 63 = 27 → w_C xs xl 146 [.ref 0] I J b (fun v Ic Jc bc => w_T xs xl 0 949 [some (.ref 100000), some (.ref 0), some (.ref 104), some (w_i l3)] [] (w_pv v []) Ic Jc bc Q)) ∧ (¬ w_and (w_s xs l3) 63 = 27 → ((w_and (w_s xs l3) 63 = 28 → ((0 ≤ l3 + 1 ∧ l3 + 1 < (xl : Int)) ∧ ((0 ≤ l3 + 2 ∧ l3 + 2 < (xl : Int)) ∧ w_C xs xl 147 [.ref 0, w_i (w_s xs (l3 + 1)), w_i (w_s xs (l3 + 2))] I J b (fun v Ic Jc bc => w_T xs xl 0 972 [some (.ref 100000), some (.ref 0), some (.ref 104), some (w_i l3)] [] (w_pv v []) Ic Jc bc Q)))) ∧ (¬ w_and (w_s xs l3) 63 = 28 → ((w_and (w_s xs l3) 63 = 29 → ((0 ≤ l3 + 1 ∧ l3 + 1 < (xl : Int)) ∧ w_C xs xl 148 [.ref 0, w_i (w_s xs (l3 + 1))] I J b (fun v Ic Jc bc => w_T xs xl 0 1000 [some (.ref 100000), some (.ref 0), some (.ref 104), some (w_i l3)] [] (w_pv v []) Ic Jc bc Q))) ∧ (¬ w_and (w_s xs l3) 63 = 29 → ((w_and (w_s xs l3) 63 = 30 → ((0 ≤ l3 + 1 ∧ l3 + 1 < (xl : Int)) ∧ ((0 ≤ l3 + 2 ∧ l3 + 2 < (xl : Int)) ∧ w_C xs xl 149 [.ref 0, w_i (w_s xs (l3 + 1)), w_i (w_s xs (l3 + 2))] I J b (fun v Ic Jc bc => w_T xs xl 0 1028 [some (.ref 100000), some (.ref 0), some (.ref 104), some (w_i l3)] [] (w_pv v []) Ic Jc bc Q)))) ∧ (¬ w_and (w_s xs l3) 63 = 30 → ((w_and (w_s xs l3) 63 = 31 → ((0 ≤ l3 + 1 ∧ l3 + 1 < (xl : Int)) ∧ ((0 ≤ l3 + 2 ∧ l3 + 2 < (xl : Int)) ∧ ((0 ≤ l3 + 3 ∧ l3 + 3 < (xl : Int)) ∧ ((-2147483648 ≤ w_s xs (l3 + 3) ∧ w_s xs (l3 + 3) < 2147483648) ∧ ((w_s xs (l3 + 3) = 0 → w_C xs xl 150 [.ref 0, w_i (w_s xs (l3 + 1)), w_i (w_s xs (l3 + 2)), w_i 0] I J b (fun v Ic Jc bc => w_T xs xl 0 1075 [some (.ref 100000), some (.ref 0), some (.ref 104), some (w_i l3)] [] (w_pv v []) Ic Jc bc Q)) ∧ (¬ w_s xs (l3 + 3) = 0 → w_C xs xl 150 [.ref 0, w_i (w_s xs (l3 + 1)), w_i (w_s xs (l3 + 2)), w_i 1] I J b (fun v Ic Jc bc => w_T xs xl 0 1075 [some (.ref 100000), some (.ref 0), some (.ref 104), some (w_i l3)] [] (w_pv v []) Ic Jc bc Q)))))))) ∧ (¬ w_and (w_s xs l3) 63 = 31 → ((w_and (w_s xs l3) 63 = 32 → ((0 ≤ l3 + 1 ∧ l3 + 1 < (xl : Int)) ∧ ((0 ≤ l3 + 2 ∧ l3 + 2 < (xl : Int)) ∧ ((0 ≤ l3 + 3 ∧ l3 + 3 < (xl : Int)) ∧ w_C xs xl 151 [.ref 0, w_i (w_s xs (l3 + 1)), w_i (w_s xs (l3 + 2)), w_i (w_s xs (l3 + 3))] I J b (fun v Ic Jc bc => w_T xs xl 0 1126 [some (.ref 100000), some (.ref 0), some (.ref 104), some (w_i l3)] [] (w_pv v []) Ic Jc bc Q))))) ∧ (¬ w_and (w_s xs l3) 63 = 32 → ((w_and (w_s xs l3) 63 = 33 → ((0 ≤ l3 + 1 ∧ l3 + 1 < (xl : Int)) ∧ w_C xs xl 152 [.ref 0, w_i (w_s xs (l3 + 1))] I J b (fun v Ic Jc bc => w_T xs xl 0 1159 [some (.ref 100000), some (.ref 0), some (.ref 104), some (w_i l3)] [] (w_pv v []) Ic Jc bc Q))) ∧ (¬ w_and (w_s xs l3) 63 = 33 → ((w_and (w_s xs l3) 63 = 34 → ((0 ≤ l3 + 1 ∧ l3 + 1 < (xl : Int)) ∧ w_C xs xl 153 [.ref 0, w_i (w_s xs (l3 + 1))] I J b (fun v Ic Jc bc => w_T xs xl 0 1182 [some (.ref 100000), some (.ref 0), some (.ref 104), some (w_i l3)] [] (w_pv v []) Ic Jc bc Q))) ∧ (¬ w_and (w_s xs l3) 63 = 34 → ((w_and (w_s xs l3) 63 = 35 → ((0 ≤ l3 + 1 ∧ l3 + 1 < (xl : Int)) ∧ w_C xs xl 154 [.ref 0, w_i (w_s xs (l3 + 1))] I J b (fun v Ic Jc bc => w_T xs xl 0 1205 [some (.ref 100000), some (.ref 0), some (.ref 104), some (w_i l3)] [] (w_pv v []) Ic Jc bc Q))) ∧ (¬ w_and (w_s xs l3) 63 = 35 → w_T xs xl 0 18 [some (.ref 100000), some (.ref 0), some (.ref 104), some (w_i (l3 + 6))] [] [] I J b Q)))))))))))))))))))))))))))))))))))))))))))))))))))))))))))))))))))))))))))))) : w_T xs xl 0 18 [some (.ref 100000), some (.ref 0), some (.ref 104), some (w_i l3)] [] [] I J b Q := by
  refine w_iload_n (q := 19) rfl rfl rfl ?_
  refine w_aload_n (q := 20) rfl rfl rfl ?_
  refine w_slen (q := 21) rfl rfl ?_
  refine w_bipush (q := 23) rfl rfl rfl ?_
  refine w_isub (q := 24) rfl rfl ?_
  obtain ⟨h1, h2, k⟩ := k
  refine w_cgt (t := 1225) (q := 27) rfl rfl rfl h1 h2 (fun c3 => ?_) (fun c3 => ?_)
  · replace k := k.1 c3
    refine w_iconst (q := 1226) rfl rfl ?_
    refine w_iret rfl rfl k
  · replace k := k.2 c3
    refine w_aload_n (q := 28) rfl rfl rfl ?_
    refine w_iload_n (q := 29) rfl rfl rfl ?_
    obtain ⟨h4, h5, k⟩ := k
    refine w_sald (q := 30) rfl rfl h4 h5 ?_
    refine w_bipush (q := 32) rfl rfl rfl ?_
    refine w_iand (q := 33) rfl rfl ?_
    obtain ⟨h6, k⟩ := k
    rcases Decidable.em (w_and (w_s xs l3) 63 = 0) with c7 | c7
    · replace k := k.1 c7
      refine w_tsw (t := 192) rfl h6 (by rw [c7]; rfl) ?_
      refine w_aload_n (q := 193) rfl rfl rfl ?_
      refine w_aload_n (q := 194) rfl rfl rfl ?_
      refine w_iload_n (q := 195) rfl rfl rfl ?_
      refine w_iconst (q := 196) rfl rfl ?_
      refine w_iadd (q := 197) rfl rfl ?_
      obtain ⟨h8, k⟩ := k
      refine w_sald (q := 198) rfl rfl h8 h5 ?_
      refine w_aload_n (q := 199) rfl rfl rfl ?_
      refine w_iload_n (q := 200) rfl rfl rfl ?_
      refine w_iconst (q := 201) rfl rfl ?_
      refine w_iadd (q := 202) rfl rfl ?_
      obtain ⟨h9, k⟩ := k
      refine w_sald (q := 203) rfl rfl h9 h5 ?_
      refine w_aload_n (q := 204) rfl rfl rfl ?_
      refine w_iload_n (q := 205) rfl rfl rfl ?_
      refine w_iconst (q := 206) rfl rfl ?_
      refine w_iadd (q := 207) rfl rfl ?_
      obtain ⟨h10, k⟩ := k
      refine w_sald (q := 208) rfl rfl h10 h5 ?_
      refine w_aload_n (q := 209) rfl rfl rfl ?_
      refine w_iload_n (q := 210) rfl rfl rfl ?_
      refine w_iconst (q := 211) rfl rfl ?_
      refine w_iadd (q := 212) rfl rfl ?_
      obtain ⟨h11, k⟩ := k
      refine w_sald (q := 213) rfl rfl h11 h5 ?_
      refine w_aload_n (q := 214) rfl rfl rfl ?_
      refine w_iload_n (q := 215) rfl rfl rfl ?_
      refine w_iconst (q := 216) rfl rfl ?_
      refine w_iadd (q := 217) rfl rfl ?_
      obtain ⟨h12, k⟩ := k
      refine w_sald (q := 218) rfl rfl h12 h5 ?_
      refine w_callv (q := 221) rfl rfl rfl rfl rfl rfl ?_
      exact k
    · replace k := k.2 c7
      rcases Decidable.em (w_and (w_s xs l3) 63 = 1) with c13 | c13
      · replace k := k.1 c13
        refine w_tsw (t := 255) rfl h6 (by rw [c13]; rfl) ?_
        refine w_aload_n (q := 256) rfl rfl rfl ?_
        refine w_aload_n (q := 257) rfl rfl rfl ?_
        refine w_iload_n (q := 258) rfl rfl rfl ?_
        refine w_iconst (q := 259) rfl rfl ?_
        refine w_iadd (q := 260) rfl rfl ?_
        obtain ⟨h14, k⟩ := k
        refine w_sald (q := 261) rfl rfl h14 h5 ?_
        refine w_callv (q := 264) rfl rfl rfl rfl rfl rfl ?_
        exact k
      · replace k := k.2 c13
        rcases Decidable.em (w_and (w_s xs l3) 63 = 2) with c15 | c15
        · replace k := k.1 c15
          refine w_tsw (t := 278) rfl h6 (by rw [c15]; rfl) ?_
          refine w_aload_n (q := 279) rfl rfl rfl ?_
          refine w_callv (q := 282) rfl rfl rfl rfl rfl rfl ?_
          exact k
        · replace k := k.2 c15
          rcases Decidable.em (w_and (w_s xs l3) 63 = 3) with c16 | c16
          · replace k := k.1 c16
            refine w_tsw (t := 291) rfl h6 (by rw [c16]; rfl) ?_
            refine w_aload_n (q := 292) rfl rfl rfl ?_
            refine w_callv (q := 295) rfl rfl rfl rfl rfl rfl ?_
            exact k
          · replace k := k.2 c16
            rcases Decidable.em (w_and (w_s xs l3) 63 = 4) with c17 | c17
            · replace k := k.1 c17
              refine w_tsw (t := 304) rfl h6 (by rw [c17]; rfl) ?_
              refine w_aload_n (q := 305) rfl rfl rfl ?_
              refine w_aload_n (q := 306) rfl rfl rfl ?_
              refine w_iload_n (q := 307) rfl rfl rfl ?_
              refine w_iconst (q := 308) rfl rfl ?_
              refine w_iadd (q := 309) rfl rfl ?_
              obtain ⟨h18, k⟩ := k
              refine w_sald (q := 310) rfl rfl h18 h5 ?_
              refine w_aload_n (q := 311) rfl rfl rfl ?_
              refine w_iload_n (q := 312) rfl rfl rfl ?_
              refine w_iconst (q := 313) rfl rfl ?_
              refine w_iadd (q := 314) rfl rfl ?_
              obtain ⟨h19, k⟩ := k
              refine w_sald (q := 315) rfl rfl h19 h5 ?_
              refine w_callv (q := 318) rfl rfl rfl rfl rfl rfl ?_
              exact k
            · replace k := k.2 c17
              rcases Decidable.em (w_and (w_s xs l3) 63 = 5) with c20 | c20
              · replace k := k.1 c20
                refine w_tsw (t := 337) rfl h6 (by rw [c20]; rfl) ?_
                refine w_aload_n (q := 338) rfl rfl rfl ?_
                refine w_aload_n (q := 339) rfl rfl rfl ?_
                refine w_iload_n (q := 340) rfl rfl rfl ?_
                refine w_iconst (q := 341) rfl rfl ?_
                refine w_iadd (q := 342) rfl rfl ?_
                obtain ⟨h21, k⟩ := k
                refine w_sald (q := 343) rfl rfl h21 h5 ?_
                refine w_aload_n (q := 344) rfl rfl rfl ?_
                refine w_iload_n (q := 345) rfl rfl rfl ?_
                refine w_iconst (q := 346) rfl rfl ?_
                refine w_iadd (q := 347) rfl rfl ?_
                obtain ⟨h22, k⟩ := k
                refine w_sald (q := 348) rfl rfl h22 h5 ?_
                refine w_aload_n (q := 349) rfl rfl rfl ?_
                refine w_iload_n (q := 350) rfl rfl rfl ?_
                refine w_iconst (q := 351) rfl rfl ?_
                refine w_iadd (q := 352) rfl rfl ?_
                obtain ⟨h23, k⟩ := k
                refine w_sald (q := 353) rfl rfl h23 h5 ?_
                obtain ⟨h24, k⟩ := k
                refine w_zeq (t := 360) (q := 356) rfl rfl rfl h24 (fun c25 => ?_) (fun c25 => ?_)
                · replace k := k.1 c25
                  refine w_iconst (q := 361) rfl rfl ?_
                  refine w_callv (q := 364) rfl rfl rfl rfl rfl rfl ?_
                  exact k
                · replace k := k.2 c25
                  refine w_iconst (q := 357) rfl rfl ?_
                  refine w_goto (t := 361) rfl rfl ?_
                  refine w_callv (q := 364) rfl rfl rfl rfl rfl rfl ?_
                  exact k
              · replace k := k.2 c20
                rcases Decidable.em (w_and (w_s xs l3) 63 = 6) with c26 | c26
                · replace k := k.1 c26
                  refine w_tsw (t := 396) rfl h6 (by rw [c26]; rfl) ?_
                  refine w_aload_n (q := 397) rfl rfl rfl ?_
                  refine w_aload_n (q := 398) rfl rfl rfl ?_
                  refine w_iload_n (q := 399) rfl rfl rfl ?_
                  refine w_iconst (q := 400) rfl rfl ?_
                  refine w_iadd (q := 401) rfl rfl ?_
                  obtain ⟨h27, k⟩ := k
                  refine w_sald (q := 402) rfl rfl h27 h5 ?_
                  refine w_aload_n (q := 403) rfl rfl rfl ?_
                  refine w_iload_n (q := 404) rfl rfl rfl ?_
                  refine w_iconst (q := 405) rfl rfl ?_
                  refine w_iadd (q := 406) rfl rfl ?_
                  obtain ⟨h28, k⟩ := k
                  refine w_sald (q := 407) rfl rfl h28 h5 ?_
                  refine w_callv (q := 410) rfl rfl rfl rfl rfl rfl ?_
                  exact k
                · replace k := k.2 c26
                  rcases Decidable.em (w_and (w_s xs l3) 63 = 7) with c29 | c29
                  · replace k := k.1 c29
                    refine w_tsw (t := 429) rfl h6 (by rw [c29]; rfl) ?_
                    refine w_aload_n (q := 430) rfl rfl rfl ?_
                    refine w_aload_n (q := 431) rfl rfl rfl ?_
                    refine w_iload_n (q := 432) rfl rfl rfl ?_
                    refine w_iconst (q := 433) rfl rfl ?_
                    refine w_iadd (q := 434) rfl rfl ?_
                    obtain ⟨h30, k⟩ := k
                    refine w_sald (q := 435) rfl rfl h30 h5 ?_
                    refine w_callv (q := 438) rfl rfl rfl rfl rfl rfl ?_
                    exact k
                  · replace k := k.2 c29
                    rcases Decidable.em (w_and (w_s xs l3) 63 = 8) with c31 | c31
                    · replace k := k.1 c31
                      refine w_tsw (t := 452) rfl h6 (by rw [c31]; rfl) ?_
                      refine w_aload_n (q := 453) rfl rfl rfl ?_
                      refine w_aload_n (q := 454) rfl rfl rfl ?_
                      refine w_iload_n (q := 455) rfl rfl rfl ?_
                      refine w_iconst (q := 456) rfl rfl ?_
                      refine w_iadd (q := 457) rfl rfl ?_
                      obtain ⟨h32, k⟩ := k
                      refine w_sald (q := 458) rfl rfl h32 h5 ?_
                      refine w_aload_n (q := 459) rfl rfl rfl ?_
                      refine w_iload_n (q := 460) rfl rfl rfl ?_
                      refine w_iconst (q := 461) rfl rfl ?_
                      refine w_iadd (q := 462) rfl rfl ?_
                      obtain ⟨h33, k⟩ := k
                      refine w_sald (q := 463) rfl rfl h33 h5 ?_
                      refine w_callv (q := 466) rfl rfl rfl rfl rfl rfl ?_
                      exact k
                    · replace k := k.2 c31
                      rcases Decidable.em (w_and (w_s xs l3) 63 = 9) with c34 | c34
                      · replace k := k.1 c34
                        refine w_tsw (t := 485) rfl h6 (by rw [c34]; rfl) ?_
                        refine w_aload_n (q := 486) rfl rfl rfl ?_
                        refine w_aload_n (q := 487) rfl rfl rfl ?_
                        refine w_iload_n (q := 488) rfl rfl rfl ?_
                        refine w_iconst (q := 489) rfl rfl ?_
                        refine w_iadd (q := 490) rfl rfl ?_
                        obtain ⟨h35, k⟩ := k
                        refine w_sald (q := 491) rfl rfl h35 h5 ?_
                        refine w_aload_n (q := 492) rfl rfl rfl ?_
                        refine w_iload_n (q := 493) rfl rfl rfl ?_
                        refine w_iconst (q := 494) rfl rfl ?_
                        refine w_iadd (q := 495) rfl rfl ?_
                        obtain ⟨h36, k⟩ := k
                        refine w_sald (q := 496) rfl rfl h36 h5 ?_
                        refine w_callv (q := 499) rfl rfl rfl rfl rfl rfl ?_
                        exact k
                      · replace k := k.2 c34
                        rcases Decidable.em (w_and (w_s xs l3) 63 = 10) with c37 | c37
                        · replace k := k.1 c37
                          refine w_tsw (t := 518) rfl h6 (by rw [c37]; rfl) ?_
                          refine w_aload_n (q := 519) rfl rfl rfl ?_
                          refine w_aload_n (q := 520) rfl rfl rfl ?_
                          refine w_iload_n (q := 521) rfl rfl rfl ?_
                          refine w_iconst (q := 522) rfl rfl ?_
                          refine w_iadd (q := 523) rfl rfl ?_
                          obtain ⟨h38, k⟩ := k
                          refine w_sald (q := 524) rfl rfl h38 h5 ?_
                          refine w_aload_n (q := 525) rfl rfl rfl ?_
                          refine w_iload_n (q := 526) rfl rfl rfl ?_
                          refine w_iconst (q := 527) rfl rfl ?_
                          refine w_iadd (q := 528) rfl rfl ?_
                          obtain ⟨h39, k⟩ := k
                          refine w_sald (q := 529) rfl rfl h39 h5 ?_
                          refine w_callv (q := 532) rfl rfl rfl rfl rfl rfl ?_
                          exact k
                        · replace k := k.2 c37
                          rcases Decidable.em (w_and (w_s xs l3) 63 = 11) with c40 | c40
                          · replace k := k.1 c40
                            refine w_tsw (t := 551) rfl h6 (by rw [c40]; rfl) ?_
                            refine w_aload_n (q := 552) rfl rfl rfl ?_
                            refine w_aload_n (q := 553) rfl rfl rfl ?_
                            refine w_iload_n (q := 554) rfl rfl rfl ?_
                            refine w_iconst (q := 555) rfl rfl ?_
                            refine w_iadd (q := 556) rfl rfl ?_
                            obtain ⟨h41, k⟩ := k
                            refine w_sald (q := 557) rfl rfl h41 h5 ?_
                            refine w_aload_n (q := 558) rfl rfl rfl ?_
                            refine w_iload_n (q := 559) rfl rfl rfl ?_
                            refine w_iconst (q := 560) rfl rfl ?_
                            refine w_iadd (q := 561) rfl rfl ?_
                            obtain ⟨h42, k⟩ := k
                            refine w_sald (q := 562) rfl rfl h42 h5 ?_
                            refine w_callv (q := 565) rfl rfl rfl rfl rfl rfl ?_
                            exact k
                          · replace k := k.2 c40
                            rcases Decidable.em (w_and (w_s xs l3) 63 = 12) with c43 | c43
                            · replace k := k.1 c43
                              refine w_tsw (t := 584) rfl h6 (by rw [c43]; rfl) ?_
                              refine w_aload_n (q := 585) rfl rfl rfl ?_
                              refine w_aload_n (q := 586) rfl rfl rfl ?_
                              refine w_iload_n (q := 587) rfl rfl rfl ?_
                              refine w_iconst (q := 588) rfl rfl ?_
                              refine w_iadd (q := 589) rfl rfl ?_
                              obtain ⟨h44, k⟩ := k
                              refine w_sald (q := 590) rfl rfl h44 h5 ?_
                              refine w_callv (q := 593) rfl rfl rfl rfl rfl rfl ?_
                              exact k
                            · replace k := k.2 c43
                              rcases Decidable.em (w_and (w_s xs l3) 63 = 13) with c45 | c45
                              · replace k := k.1 c45
                                refine w_tsw (t := 607) rfl h6 (by rw [c45]; rfl) ?_
                                refine w_aload_n (q := 608) rfl rfl rfl ?_
                                refine w_aload_n (q := 609) rfl rfl rfl ?_
                                refine w_iload_n (q := 610) rfl rfl rfl ?_
                                refine w_iconst (q := 611) rfl rfl ?_
                                refine w_iadd (q := 612) rfl rfl ?_
                                obtain ⟨h46, k⟩ := k
                                refine w_sald (q := 613) rfl rfl h46 h5 ?_
                                refine w_callv (q := 616) rfl rfl rfl rfl rfl rfl ?_
                                exact k
                              · replace k := k.2 c45
                                rcases Decidable.em (w_and (w_s xs l3) 63 = 14) with c47 | c47
                                · replace k := k.1 c47
                                  refine w_tsw (t := 630) rfl h6 (by rw [c47]; rfl) ?_
                                  refine w_aload_n (q := 631) rfl rfl rfl ?_
                                  refine w_aload_n (q := 632) rfl rfl rfl ?_
                                  refine w_iload_n (q := 633) rfl rfl rfl ?_
                                  refine w_iconst (q := 634) rfl rfl ?_
                                  refine w_iadd (q := 635) rfl rfl ?_
                                  obtain ⟨h48, k⟩ := k
                                  refine w_sald (q := 636) rfl rfl h48 h5 ?_
                                  refine w_callv (q := 639) rfl rfl rfl rfl rfl rfl ?_
                                  exact k
                                · replace k := k.2 c47
                                  rcases Decidable.em (w_and (w_s xs l3) 63 = 15) with c49 | c49
                                  · replace k := k.1 c49
                                    refine w_tsw (t := 653) rfl h6 (by rw [c49]; rfl) ?_
                                    refine w_aload_n (q := 654) rfl rfl rfl ?_
                                    refine w_aload_n (q := 655) rfl rfl rfl ?_
                                    refine w_iload_n (q := 656) rfl rfl rfl ?_
                                    refine w_iconst (q := 657) rfl rfl ?_
                                    refine w_iadd (q := 658) rfl rfl ?_
                                    obtain ⟨h50, k⟩ := k
                                    refine w_sald (q := 659) rfl rfl h50 h5 ?_
                                    refine w_callv (q := 662) rfl rfl rfl rfl rfl rfl ?_
                                    exact k
                                  · replace k := k.2 c49
                                    rcases Decidable.em (w_and (w_s xs l3) 63 = 16) with c51 | c51
                                    · replace k := k.1 c51
                                      refine w_tsw (t := 676) rfl h6 (by rw [c51]; rfl) ?_
                                      refine w_aload_n (q := 677) rfl rfl rfl ?_
                                      refine w_aload_n (q := 678) rfl rfl rfl ?_
                                      refine w_iload_n (q := 679) rfl rfl rfl ?_
                                      refine w_iconst (q := 680) rfl rfl ?_
                                      refine w_iadd (q := 681) rfl rfl ?_
                                      obtain ⟨h52, k⟩ := k
                                      refine w_sald (q := 682) rfl rfl h52 h5 ?_
                                      refine w_aload_n (q := 683) rfl rfl rfl ?_
                                      refine w_iload_n (q := 684) rfl rfl rfl ?_
                                      refine w_iconst (q := 685) rfl rfl ?_
                                      refine w_iadd (q := 686) rfl rfl ?_
                                      obtain ⟨h53, k⟩ := k
                                      refine w_sald (q := 687) rfl rfl h53 h5 ?_
                                      refine w_callv (q := 690) rfl rfl rfl rfl rfl rfl ?_
                                      exact k
                                    · replace k := k.2 c51
                                      rcases Decidable.em (w_and (w_s xs l3) 63 = 17) with c54 | c54
                                      · replace k := k.1 c54
                                        refine w_tsw (t := 709) rfl h6 (by rw [c54]; rfl) ?_
                                        refine w_aload_n (q := 710) rfl rfl rfl ?_
                                        refine w_aload_n (q := 711) rfl rfl rfl ?_
                                        refine w_iload_n (q := 712) rfl rfl rfl ?_
                                        refine w_iconst (q := 713) rfl rfl ?_
                                        refine w_iadd (q := 714) rfl rfl ?_
                                        obtain ⟨h55, k⟩ := k
                                        refine w_sald (q := 715) rfl rfl h55 h5 ?_
                                        refine w_aload_n (q := 716) rfl rfl rfl ?_
                                        refine w_iload_n (q := 717) rfl rfl rfl ?_
                                        refine w_iconst (q := 718) rfl rfl ?_
                                        refine w_iadd (q := 719) rfl rfl ?_
                                        obtain ⟨h56, k⟩ := k
                                        refine w_sald (q := 720) rfl rfl h56 h5 ?_
                                        refine w_callv (q := 723) rfl rfl rfl rfl rfl rfl ?_
                                        exact k
                                      · replace k := k.2 c54
                                        rcases Decidable.em (w_and (w_s xs l3) 63 = 18) with c57 | c57
                                        · replace k := k.1 c57
                                          refine w_tsw (t := 742) rfl h6 (by rw [c57]; rfl) ?_
                                          refine w_aload_n (q := 743) rfl rfl rfl ?_
                                          refine w_aload_n (q := 744) rfl rfl rfl ?_
                                          refine w_iload_n (q := 745) rfl rfl rfl ?_
                                          refine w_iconst (q := 746) rfl rfl ?_
                                          refine w_iadd (q := 747) rfl rfl ?_
                                          obtain ⟨h58, k⟩ := k
                                          refine w_sald (q := 748) rfl rfl h58 h5 ?_
                                          refine w_callv (q := 751) rfl rfl rfl rfl rfl rfl ?_
                                          exact k
                                        · replace k := k.2 c57
                                          rcases Decidable.em (w_and (w_s xs l3) 63 = 19) with c59 | c59
                                          · replace k := k.1 c59
                                            refine w_tsw (t := 765) rfl h6 (by rw [c59]; rfl) ?_
                                            refine w_aload_n (q := 766) rfl rfl rfl ?_
                                            refine w_aload_n (q := 767) rfl rfl rfl ?_
                                            refine w_iload_n (q := 768) rfl rfl rfl ?_
                                            refine w_iconst (q := 769) rfl rfl ?_
                                            refine w_iadd (q := 770) rfl rfl ?_
                                            obtain ⟨h60, k⟩ := k
                                            refine w_sald (q := 771) rfl rfl h60 h5 ?_
                                            refine w_callv (q := 774) rfl rfl rfl rfl rfl rfl ?_
                                            exact k
                                          · replace k := k.2 c59
                                            rcases Decidable.em (w_and (w_s xs l3) 63 = 20) with c61 | c61
                                            · replace k := k.1 c61
                                              refine w_tsw (t := 788) rfl h6 (by rw [c61]; rfl) ?_
                                              refine w_aload_n (q := 789) rfl rfl rfl ?_
                                              refine w_callv (q := 792) rfl rfl rfl rfl rfl rfl ?_
                                              exact k
                                            · replace k := k.2 c61
                                              rcases Decidable.em (w_and (w_s xs l3) 63 = 21) with c62 | c62
                                              · replace k := k.1 c62
                                                refine w_tsw (t := 801) rfl h6 (by rw [c62]; rfl) ?_
                                                refine w_aload_n (q := 802) rfl rfl rfl ?_
                                                refine w_aload_n (q := 803) rfl rfl rfl ?_
                                                refine w_iload_n (q := 804) rfl rfl rfl ?_
                                                refine w_iconst (q := 805) rfl rfl ?_
                                                refine w_iadd (q := 806) rfl rfl ?_
                                                obtain ⟨h63, k⟩ := k
                                                refine w_sald (q := 807) rfl rfl h63 h5 ?_
                                                obtain ⟨h64, k⟩ := k
                                                refine w_zeq (t := 814) (q := 810) rfl rfl rfl h64 (fun c65 => ?_) (fun c65 => ?_)
                                                · replace k := k.1 c65
                                                  refine w_iconst (q := 815) rfl rfl ?_
                                                  refine w_callv (q := 818) rfl rfl rfl rfl rfl rfl ?_
                                                  exact k
                                                · replace k := k.2 c65
                                                  refine w_iconst (q := 811) rfl rfl ?_
                                                  refine w_goto (t := 815) rfl rfl ?_
                                                  refine w_callv (q := 818) rfl rfl rfl rfl rfl rfl ?_
                                                  exact k
                                              · replace k := k.2 c62
                                                rcases Decidable.em (w_and (w_s xs l3) 63 = 22) with c66 | c66
                                                · replace k := k.1 c66
                                                  refine w_tsw (t := 840) rfl h6 (by rw [c66]; rfl) ?_
                                                  refine w_aload_n (q := 841) rfl rfl rfl ?_
                                                  refine w_callv (q := 844) rfl rfl rfl rfl rfl rfl ?_
                                                  exact k
                                                · replace k := k.2 c66
                                                  rcases Decidable.em (w_and (w_s xs l3) 63 = 23) with c67 | c67
                                                  · replace k := k.1 c67
                                                    refine w_tsw (t := 853) rfl h6 (by rw [c67]; rfl) ?_
                                                    refine w_aload_n (q := 854) rfl rfl rfl ?_
                                                    refine w_aload_n (q := 855) rfl rfl rfl ?_
                                                    refine w_iload_n (q := 856) rfl rfl rfl ?_
                                                    refine w_iconst (q := 857) rfl rfl ?_
                                                    refine w_iadd (q := 858) rfl rfl ?_
                                                    obtain ⟨h68, k⟩ := k
                                                    refine w_sald (q := 859) rfl rfl h68 h5 ?_
                                                    refine w_callv (q := 862) rfl rfl rfl rfl rfl rfl ?_
                                                    exact k
                                                  · replace k := k.2 c67
                                                    rcases Decidable.em (w_and (w_s xs l3) 63 = 24) with c69 | c69
                                                    · replace k := k.1 c69
                                                      refine w_tsw (t := 876) rfl h6 (by rw [c69]; rfl) ?_
                                                      refine w_aload_n (q := 877) rfl rfl rfl ?_
                                                      refine w_aload_n (q := 878) rfl rfl rfl ?_
                                                      refine w_iload_n (q := 879) rfl rfl rfl ?_
                                                      refine w_iconst (q := 880) rfl rfl ?_
                                                      refine w_iadd (q := 881) rfl rfl ?_
                                                      obtain ⟨h70, k⟩ := k
                                                      refine w_sald (q := 882) rfl rfl h70 h5 ?_
                                                      refine w_aload_n (q := 883) rfl rfl rfl ?_
                                                      refine w_iload_n (q := 884) rfl rfl rfl ?_
                                                      refine w_iconst (q := 885) rfl rfl ?_
                                                      refine w_iadd (q := 886) rfl rfl ?_
                                                      obtain ⟨h71, k⟩ := k
                                                      refine w_sald (q := 887) rfl rfl h71 h5 ?_
                                                      refine w_aload_n (q := 888) rfl rfl rfl ?_
                                                      refine w_iload_n (q := 889) rfl rfl rfl ?_
                                                      refine w_iconst (q := 890) rfl rfl ?_
                                                      refine w_iadd (q := 891) rfl rfl ?_
                                                      obtain ⟨h72, k⟩ := k
                                                      refine w_sald (q := 892) rfl rfl h72 h5 ?_
                                                      refine w_callv (q := 895) rfl rfl rfl rfl rfl rfl ?_
                                                      exact k
                                                    · replace k := k.2 c69
                                                      rcases Decidable.em (w_and (w_s xs l3) 63 = 25) with c73 | c73
                                                      · replace k := k.1 c73
                                                        refine w_tsw (t := 919) rfl h6 (by rw [c73]; rfl) ?_
                                                        refine w_aload_n (q := 920) rfl rfl rfl ?_
                                                        refine w_callv (q := 923) rfl rfl rfl rfl rfl rfl ?_
                                                        exact k
                                                      · replace k := k.2 c73
                                                        rcases Decidable.em (w_and (w_s xs l3) 63 = 26) with c74 | c74
                                                        · replace k := k.1 c74
                                                          refine w_tsw (t := 932) rfl h6 (by rw [c74]; rfl) ?_
                                                          refine w_aload_n (q := 933) rfl rfl rfl ?_
                                                          refine w_callv (q := 936) rfl rfl rfl rfl rfl rfl ?_
                                                          exact k
                                                        · replace k := k.2 c74
                                                          rcases Decidable.em (w_and (w_s xs l3) 63 = 27) with c75 | c75
                                                          · replace k := k.1 c75
                                                            refine w_tsw (t := 945) rfl h6 (by rw [c75]; rfl) ?_
                                                            refine w_aload_n (q := 946) rfl rfl rfl ?_
                                                            refine w_callv (q := 949) rfl rfl rfl rfl rfl rfl ?_
                                                            exact k
                                                          · replace k := k.2 c75
                                                            rcases Decidable.em (w_and (w_s xs l3) 63 = 28) with c76 | c76
                                                            · replace k := k.1 c76
                                                              refine w_tsw (t := 958) rfl h6 (by rw [c76]; rfl) ?_
                                                              refine w_aload_n (q := 959) rfl rfl rfl ?_
                                                              refine w_aload_n (q := 960) rfl rfl rfl ?_
                                                              refine w_iload_n (q := 961) rfl rfl rfl ?_
                                                              refine w_iconst (q := 962) rfl rfl ?_
                                                              refine w_iadd (q := 963) rfl rfl ?_
                                                              obtain ⟨h77, k⟩ := k
                                                              refine w_sald (q := 964) rfl rfl h77 h5 ?_
                                                              refine w_aload_n (q := 965) rfl rfl rfl ?_
                                                              refine w_iload_n (q := 966) rfl rfl rfl ?_
                                                              refine w_iconst (q := 967) rfl rfl ?_
                                                              refine w_iadd (q := 968) rfl rfl ?_
                                                              obtain ⟨h78, k⟩ := k
                                                              refine w_sald (q := 969) rfl rfl h78 h5 ?_
                                                              refine w_callv (q := 972) rfl rfl rfl rfl rfl rfl ?_
                                                              exact k
                                                            · replace k := k.2 c76
                                                              rcases Decidable.em (w_and (w_s xs l3) 63 = 29) with c79 | c79
                                                              · replace k := k.1 c79
                                                                refine w_tsw (t := 991) rfl h6 (by rw [c79]; rfl) ?_
                                                                refine w_aload_n (q := 992) rfl rfl rfl ?_
                                                                refine w_aload_n (q := 993) rfl rfl rfl ?_
                                                                refine w_iload_n (q := 994) rfl rfl rfl ?_
                                                                refine w_iconst (q := 995) rfl rfl ?_
                                                                refine w_iadd (q := 996) rfl rfl ?_
                                                                obtain ⟨h80, k⟩ := k
                                                                refine w_sald (q := 997) rfl rfl h80 h5 ?_
                                                                refine w_callv (q := 1000) rfl rfl rfl rfl rfl rfl ?_
                                                                exact k
                                                              · replace k := k.2 c79
                                                                rcases Decidable.em (w_and (w_s xs l3) 63 = 30) with c81 | c81
                                                                · replace k := k.1 c81
                                                                  refine w_tsw (t := 1014) rfl h6 (by rw [c81]; rfl) ?_
                                                                  refine w_aload_n (q := 1015) rfl rfl rfl ?_
                                                                  refine w_aload_n (q := 1016) rfl rfl rfl ?_
                                                                  refine w_iload_n (q := 1017) rfl rfl rfl ?_
                                                                  refine w_iconst (q := 1018) rfl rfl ?_
                                                                  refine w_iadd (q := 1019) rfl rfl ?_
                                                                  obtain ⟨h82, k⟩ := k
                                                                  refine w_sald (q := 1020) rfl rfl h82 h5 ?_
                                                                  refine w_aload_n (q := 1021) rfl rfl rfl ?_
                                                                  refine w_iload_n (q := 1022) rfl rfl rfl ?_
                                                                  refine w_iconst (q := 1023) rfl rfl ?_
                                                                  refine w_iadd (q := 1024) rfl rfl ?_
                                                                  obtain ⟨h83, k⟩ := k
                                                                  refine w_sald (q := 1025) rfl rfl h83 h5 ?_
                                                                  refine w_callv (q := 1028) rfl rfl rfl rfl rfl rfl ?_
                                                                  exact k
                                                                · replace k := k.2 c81
                                                                  rcases Decidable.em (w_and (w_s xs l3) 63 = 31) with c84 | c84
                                                                  · replace k := k.1 c84
                                                                    refine w_tsw (t := 1048) rfl h6 (by rw [c84]; rfl) ?_
                                                                    refine w_aload_n (q := 1049) rfl rfl rfl ?_
                                                                    refine w_aload_n (q := 1050) rfl rfl rfl ?_
                                                                    refine w_iload_n (q := 1051) rfl rfl rfl ?_
                                                                    refine w_iconst (q := 1052) rfl rfl ?_
                                                                    refine w_iadd (q := 1053) rfl rfl ?_
                                                                    obtain ⟨h85, k⟩ := k
                                                                    refine w_sald (q := 1054) rfl rfl h85 h5 ?_
                                                                    refine w_aload_n (q := 1055) rfl rfl rfl ?_
                                                                    refine w_iload_n (q := 1056) rfl rfl rfl ?_
                                                                    refine w_iconst (q := 1057) rfl rfl ?_
                                                                    refine w_iadd (q := 1058) rfl rfl ?_
                                                                    obtain ⟨h86, k⟩ := k
                                                                    refine w_sald (q := 1059) rfl rfl h86 h5 ?_
                                                                    refine w_aload_n (q := 1060) rfl rfl rfl ?_
                                                                    refine w_iload_n (q := 1061) rfl rfl rfl ?_
                                                                    refine w_iconst (q := 1062) rfl rfl ?_
                                                                    refine w_iadd (q := 1063) rfl rfl ?_
                                                                    obtain ⟨h87, k⟩ := k
                                                                    refine w_sald (q := 1064) rfl rfl h87 h5 ?_
                                                                    obtain ⟨h88, k⟩ := k
                                                                    refine w_zeq (t := 1071) (q := 1067) rfl rfl rfl h88 (fun c89 => ?_) (fun c89 => ?_)
                                                                    · replace k := k.1 c89
                                                                      refine w_iconst (q := 1072) rfl rfl ?_
                                                                      refine w_callv (q := 1075) rfl rfl rfl rfl rfl rfl ?_
                                                                      exact k
                                                                    · replace k := k.2 c89
                                                                      refine w_iconst (q := 1068) rfl rfl ?_
                                                                      refine w_goto (t := 1072) rfl rfl ?_
                                                                      refine w_callv (q := 1075) rfl rfl rfl rfl rfl rfl ?_
                                                                      exact k
                                                                  · replace k := k.2 c84
                                                                    rcases Decidable.em (w_and (w_s xs l3) 63 = 32) with c90 | c90
                                                                    · replace k := k.1 c90
                                                                      refine w_tsw (t := 1107) rfl h6 (by rw [c90]; rfl) ?_
                                                                      refine w_aload_n (q := 1108) rfl rfl rfl ?_
                                                                      refine w_aload_n (q := 1109) rfl rfl rfl ?_
                                                                      refine w_iload_n (q := 1110) rfl rfl rfl ?_
                                                                      refine w_iconst (q := 1111) rfl rfl ?_
                                                                      refine w_iadd (q := 1112) rfl rfl ?_
                                                                      obtain ⟨h91, k⟩ := k
                                                                      refine w_sald (q := 1113) rfl rfl h91 h5 ?_
                                                                      refine w_aload_n (q := 1114) rfl rfl rfl ?_
                                                                      refine w_iload_n (q := 1115) rfl rfl rfl ?_
                                                                      refine w_iconst (q := 1116) rfl rfl ?_
                                                                      refine w_iadd (q := 1117) rfl rfl ?_
                                                                      obtain ⟨h92, k⟩ := k
                                                                      refine w_sald (q := 1118) rfl rfl h92 h5 ?_
                                                                      refine w_aload_n (q := 1119) rfl rfl rfl ?_
                                                                      refine w_iload_n (q := 1120) rfl rfl rfl ?_
                                                                      refine w_iconst (q := 1121) rfl rfl ?_
                                                                      refine w_iadd (q := 1122) rfl rfl ?_
                                                                      obtain ⟨h93, k⟩ := k
                                                                      refine w_sald (q := 1123) rfl rfl h93 h5 ?_
                                                                      refine w_callv (q := 1126) rfl rfl rfl rfl rfl rfl ?_
                                                                      exact k
                                                                    · replace k := k.2 c90
                                                                      rcases Decidable.em (w_and (w_s xs l3) 63 = 33) with c94 | c94
                                                                      · replace k := k.1 c94
                                                                        refine w_tsw (t := 1150) rfl h6 (by rw [c94]; rfl) ?_
                                                                        refine w_aload_n (q := 1151) rfl rfl rfl ?_
                                                                        refine w_aload_n (q := 1152) rfl rfl rfl ?_
                                                                        refine w_iload_n (q := 1153) rfl rfl rfl ?_
                                                                        refine w_iconst (q := 1154) rfl rfl ?_
                                                                        refine w_iadd (q := 1155) rfl rfl ?_
                                                                        obtain ⟨h95, k⟩ := k
                                                                        refine w_sald (q := 1156) rfl rfl h95 h5 ?_
                                                                        refine w_callv (q := 1159) rfl rfl rfl rfl rfl rfl ?_
                                                                        exact k
                                                                      · replace k := k.2 c94
                                                                        rcases Decidable.em (w_and (w_s xs l3) 63 = 34) with c96 | c96
                                                                        · replace k := k.1 c96
                                                                          refine w_tsw (t := 1173) rfl h6 (by rw [c96]; rfl) ?_
                                                                          refine w_aload_n (q := 1174) rfl rfl rfl ?_
                                                                          refine w_aload_n (q := 1175) rfl rfl rfl ?_
                                                                          refine w_iload_n (q := 1176) rfl rfl rfl ?_
                                                                          refine w_iconst (q := 1177) rfl rfl ?_
                                                                          refine w_iadd (q := 1178) rfl rfl ?_
                                                                          obtain ⟨h97, k⟩ := k
                                                                          refine w_sald (q := 1179) rfl rfl h97 h5 ?_
                                                                          refine w_callv (q := 1182) rfl rfl rfl rfl rfl rfl ?_
                                                                          exact k
                                                                        · replace k := k.2 c96
                                                                          rcases Decidable.em (w_and (w_s xs l3) 63 = 35) with c98 | c98
                                                                          · replace k := k.1 c98
                                                                            refine w_tsw (t := 1196) rfl h6 (by rw [c98]; rfl) ?_
                                                                            refine w_aload_n (q := 1197) rfl rfl rfl ?_
                                                                            refine w_aload_n (q := 1198) rfl rfl rfl ?_
                                                                            refine w_iload_n (q := 1199) rfl rfl rfl ?_
                                                                            refine w_iconst (q := 1200) rfl rfl ?_
                                                                            refine w_iadd (q := 1201) rfl rfl ?_
                                                                            obtain ⟨h99, k⟩ := k
                                                                            refine w_sald (q := 1202) rfl rfl h99 h5 ?_
                                                                            refine w_callv (q := 1205) rfl rfl rfl rfl rfl rfl ?_
                                                                            exact k
                                                                          · replace k := k.2 c98
                                                                            have hd : w_and (w_s xs l3) 63 < 0 ∨ 35 < w_and (w_s xs l3) 63 := by omega
                                                                            refine w_tsw (t := 1219) rfl h6 (by rw [if_pos hd]; rfl) ?_
                                                                            refine w_iinc (q := 1222) (L' := [some (.ref 100000), some (.ref 0), some (.ref 104), some (w_i (l3 + 6))]) (M' := []) rfl rfl rfl rfl rfl rfl ?_
                                                                            refine w_goto (t := 18) rfl rfl ?_
                                                                            exact k
theorem b0_221 {xs : Nat → Int32} {xl : Nat} {I J : w_I} {b : Bool} {Q : Option Value → w_I → w_I → Bool → Prop} {l3 s0 : Int} (k : ((0 ≤ l3 + 1 ∧ l3 + 1 < (xl : Int)) ∧ xl ≤ 100000 ∧ ((0 ≤ l3 + 2 ∧ l3 + 2 < (xl : Int)) ∧ ((0 ≤ l3 + 3 ∧ l3 + 3 < (xl : Int)) ∧ ((0 ≤ l3 + 4 ∧ l3 + 4 < (xl : Int)) ∧ ((0 ≤ l3 + 5 ∧ l3 + 5 < (xl : Int)) ∧ w_C xs xl 164 [.ref 104, w_i (w_s xs (l3 + 1)), w_i (w_s xs (l3 + 2)), w_i (w_s xs (l3 + 3)), w_i (w_s xs (l3 + 4)), w_i (w_s xs (l3 + 5))] I J b (fun v Ic Jc bc => w_T xs xl 0 250 [some (.ref 100000), some (.ref 0), some (.ref 104), some (w_i l3)] [] (w_pv v [w_i s0]) Ic Jc bc Q))))))) : w_T xs xl 0 221 [some (.ref 100000), some (.ref 0), some (.ref 104), some (w_i l3)] [] [w_i s0] I J b Q := by
  refine w_aload_n (q := 222) rfl rfl rfl ?_
  refine w_aload_n (q := 223) rfl rfl rfl ?_
  refine w_iload_n (q := 224) rfl rfl rfl ?_
  refine w_iconst (q := 225) rfl rfl ?_
  refine w_iadd (q := 226) rfl rfl ?_
  obtain ⟨h1, h2, k⟩ := k
  refine w_sald (q := 227) rfl rfl h1 h2 ?_
  refine w_aload_n (q := 228) rfl rfl rfl ?_
  refine w_iload_n (q := 229) rfl rfl rfl ?_
  refine w_iconst (q := 230) rfl rfl ?_
  refine w_iadd (q := 231) rfl rfl ?_
  obtain ⟨h3, k⟩ := k
  refine w_sald (q := 232) rfl rfl h3 h2 ?_
  refine w_aload_n (q := 233) rfl rfl rfl ?_
  refine w_iload_n (q := 234) rfl rfl rfl ?_
  refine w_iconst (q := 235) rfl rfl ?_
  refine w_iadd (q := 236) rfl rfl ?_
  obtain ⟨h4, k⟩ := k
  refine w_sald (q := 237) rfl rfl h4 h2 ?_
  refine w_aload_n (q := 238) rfl rfl rfl ?_
  refine w_iload_n (q := 239) rfl rfl rfl ?_
  refine w_iconst (q := 240) rfl rfl ?_
  refine w_iadd (q := 241) rfl rfl ?_
  obtain ⟨h5, k⟩ := k
  refine w_sald (q := 242) rfl rfl h5 h2 ?_
  refine w_aload_n (q := 243) rfl rfl rfl ?_
  refine w_iload_n (q := 244) rfl rfl rfl ?_
  refine w_iconst (q := 245) rfl rfl ?_
  refine w_iadd (q := 246) rfl rfl ?_
  obtain ⟨h6, k⟩ := k
  refine w_sald (q := 247) rfl rfl h6 h2 ?_
  refine w_callv (q := 250) rfl rfl rfl rfl rfl rfl ?_
  exact k
theorem b0_264 {xs : Nat → Int32} {xl : Nat} {I J : w_I} {b : Bool} {Q : Option Value → w_I → w_I → Bool → Prop} {l3 s0 : Int} (k : ((0 ≤ l3 + 1 ∧ l3 + 1 < (xl : Int)) ∧ xl ≤ 100000 ∧ w_C xs xl 166 [.ref 104, w_i (w_s xs (l3 + 1))] I J b (fun v Ic Jc bc => w_T xs xl 0 273 [some (.ref 100000), some (.ref 0), some (.ref 104), some (w_i l3)] [] (w_pv v [w_i s0]) Ic Jc bc Q))) : w_T xs xl 0 264 [some (.ref 100000), some (.ref 0), some (.ref 104), some (w_i l3)] [] [w_i s0] I J b Q := by
  refine w_aload_n (q := 265) rfl rfl rfl ?_
  refine w_aload_n (q := 266) rfl rfl rfl ?_
  refine w_iload_n (q := 267) rfl rfl rfl ?_
  refine w_iconst (q := 268) rfl rfl ?_
  refine w_iadd (q := 269) rfl rfl ?_
  obtain ⟨h1, h2, k⟩ := k
  refine w_sald (q := 270) rfl rfl h1 h2 ?_
  refine w_callv (q := 273) rfl rfl rfl rfl rfl rfl ?_
  exact k
theorem b0_282 {xs : Nat → Int32} {xl : Nat} {I J : w_I} {b : Bool} {Q : Option Value → w_I → w_I → Bool → Prop} {l3 s0 : Int} (k : w_C xs xl 200 [.ref 104] I J b (fun v Ic Jc bc => w_T xs xl 0 286 [some (.ref 100000), some (.ref 0), some (.ref 104), some (w_i l3)] [] (w_pv v [w_i s0]) Ic Jc bc Q)) : w_T xs xl 0 282 [some (.ref 100000), some (.ref 0), some (.ref 104), some (w_i l3)] [] [w_i s0] I J b Q := by
  refine w_aload_n (q := 283) rfl rfl rfl ?_
  refine w_callv (q := 286) rfl rfl rfl rfl rfl rfl ?_
  exact k
theorem b0_295 {xs : Nat → Int32} {xl : Nat} {I J : w_I} {b : Bool} {Q : Option Value → w_I → w_I → Bool → Prop} {l3 s0 : Int} (k : w_C xs xl 201 [.ref 104] I J b (fun v Ic Jc bc => w_T xs xl 0 299 [some (.ref 100000), some (.ref 0), some (.ref 104), some (w_i l3)] [] (w_pv v [w_i s0]) Ic Jc bc Q)) : w_T xs xl 0 295 [some (.ref 100000), some (.ref 0), some (.ref 104), some (w_i l3)] [] [w_i s0] I J b Q := by
  refine w_aload_n (q := 296) rfl rfl rfl ?_
  refine w_callv (q := 299) rfl rfl rfl rfl rfl rfl ?_
  exact k
theorem b0_318 {xs : Nat → Int32} {xl : Nat} {I J : w_I} {b : Bool} {Q : Option Value → w_I → w_I → Bool → Prop} {l3 s0 : Int} (k : ((0 ≤ l3 + 1 ∧ l3 + 1 < (xl : Int)) ∧ xl ≤ 100000 ∧ ((0 ≤ l3 + 2 ∧ l3 + 2 < (xl : Int)) ∧ w_C xs xl 219 [.ref 104, w_i (w_s xs (l3 + 1)), w_i (w_s xs (l3 + 2))] I J b (fun v Ic Jc bc => w_T xs xl 0 332 [some (.ref 100000), some (.ref 0), some (.ref 104), some (w_i l3)] [] (w_pv v [w_i s0]) Ic Jc bc Q)))) : w_T xs xl 0 318 [some (.ref 100000), some (.ref 0), some (.ref 104), some (w_i l3)] [] [w_i s0] I J b Q := by
  refine w_aload_n (q := 319) rfl rfl rfl ?_
  refine w_aload_n (q := 320) rfl rfl rfl ?_
  refine w_iload_n (q := 321) rfl rfl rfl ?_
  refine w_iconst (q := 322) rfl rfl ?_
  refine w_iadd (q := 323) rfl rfl ?_
  obtain ⟨h1, h2, k⟩ := k
  refine w_sald (q := 324) rfl rfl h1 h2 ?_
  refine w_aload_n (q := 325) rfl rfl rfl ?_
  refine w_iload_n (q := 326) rfl rfl rfl ?_
  refine w_iconst (q := 327) rfl rfl ?_
  refine w_iadd (q := 328) rfl rfl ?_
  obtain ⟨h3, k⟩ := k
  refine w_sald (q := 329) rfl rfl h3 h2 ?_
  refine w_callv (q := 332) rfl rfl rfl rfl rfl rfl ?_
  exact k
theorem b0_364 {xs : Nat → Int32} {xl : Nat} {I J : w_I} {b : Bool} {Q : Option Value → w_I → w_I → Bool → Prop} {l3 s0 : Int} (k : ((0 ≤ l3 + 1 ∧ l3 + 1 < (xl : Int)) ∧ xl ≤ 100000 ∧ ((0 ≤ l3 + 2 ∧ l3 + 2 < (xl : Int)) ∧ ((0 ≤ l3 + 3 ∧ l3 + 3 < (xl : Int)) ∧ ((-2147483648 ≤ w_s xs (l3 + 3) ∧ w_s xs (l3 + 3) < 2147483648) ∧ ((w_s xs (l3 + 3) = 0 → w_C xs xl 221 [.ref 104, w_i (w_s xs (l3 + 1)), w_i (w_s xs (l3 + 2)), w_i 0] I J b (fun v Ic Jc bc => w_T xs xl 0 391 [some (.ref 100000), some (.ref 0), some (.ref 104), some (w_i l3)] [] (w_pv v [w_i s0]) Ic Jc bc Q)) ∧ (¬ w_s xs (l3 + 3) = 0 → w_C xs xl 221 [.ref 104, w_i (w_s xs (l3 + 1)), w_i (w_s xs (l3 + 2)), w_i 1] I J b (fun v Ic Jc bc => w_T xs xl 0 391 [some (.ref 100000), some (.ref 0), some (.ref 104), some (w_i l3)] [] (w_pv v [w_i s0]) Ic Jc bc Q)))))))) : w_T xs xl 0 364 [some (.ref 100000), some (.ref 0), some (.ref 104), some (w_i l3)] [] [w_i s0] I J b Q := by
  refine w_aload_n (q := 365) rfl rfl rfl ?_
  refine w_aload_n (q := 366) rfl rfl rfl ?_
  refine w_iload_n (q := 367) rfl rfl rfl ?_
  refine w_iconst (q := 368) rfl rfl ?_
  refine w_iadd (q := 369) rfl rfl ?_
  obtain ⟨h1, h2, k⟩ := k
  refine w_sald (q := 370) rfl rfl h1 h2 ?_
  refine w_aload_n (q := 371) rfl rfl rfl ?_
  refine w_iload_n (q := 372) rfl rfl rfl ?_
  refine w_iconst (q := 373) rfl rfl ?_
  refine w_iadd (q := 374) rfl rfl ?_
  obtain ⟨h3, k⟩ := k
  refine w_sald (q := 375) rfl rfl h3 h2 ?_
  refine w_aload_n (q := 376) rfl rfl rfl ?_
  refine w_iload_n (q := 377) rfl rfl rfl ?_
  refine w_iconst (q := 378) rfl rfl ?_
  refine w_iadd (q := 379) rfl rfl ?_
  obtain ⟨h4, k⟩ := k
  refine w_sald (q := 380) rfl rfl h4 h2 ?_
  obtain ⟨h5, k⟩ := k
  refine w_zeq (t := 387) (q := 383) rfl rfl rfl h5 (fun c6 => ?_) (fun c6 => ?_)
  · replace k := k.1 c6
    refine w_iconst (q := 388) rfl rfl ?_
    refine w_callv (q := 391) rfl rfl rfl rfl rfl rfl ?_
    exact k
  · replace k := k.2 c6
    refine w_iconst (q := 384) rfl rfl ?_
    refine w_goto (t := 388) rfl rfl ?_
    refine w_callv (q := 391) rfl rfl rfl rfl rfl rfl ?_
    exact k
theorem b0_410 {xs : Nat → Int32} {xl : Nat} {I J : w_I} {b : Bool} {Q : Option Value → w_I → w_I → Bool → Prop} {l3 s0 : Int} (k : ((0 ≤ l3 + 1 ∧ l3 + 1 < (xl : Int)) ∧ xl ≤ 100000 ∧ ((0 ≤ l3 + 2 ∧ l3 + 2 < (xl : Int)) ∧ w_C xs xl 223 [.ref 104, w_i (w_s xs (l3 + 1)), w_i (w_s xs (l3 + 2))] I J b (fun v Ic Jc bc => w_T xs xl 0 424 [some (.ref 100000), some (.ref 0), some (.ref 104), some (w_i l3)] [] (w_pv v [w_i s0]) Ic Jc bc Q)))) : w_T xs xl 0 410 [some (.ref 100000), some (.ref 0), some (.ref 104), some (w_i l3)] [] [w_i s0] I J b Q := by
  refine w_aload_n (q := 411) rfl rfl rfl ?_
  refine w_aload_n (q := 412) rfl rfl rfl ?_
  refine w_iload_n (q := 413) rfl rfl rfl ?_
  refine w_iconst (q := 414) rfl rfl ?_
  refine w_iadd (q := 415) rfl rfl ?_
  obtain ⟨h1, h2, k⟩ := k
  refine w_sald (q := 416) rfl rfl h1 h2 ?_
  refine w_aload_n (q := 417) rfl rfl rfl ?_
  refine w_iload_n (q := 418) rfl rfl rfl ?_
  refine w_iconst (q := 419) rfl rfl ?_
  refine w_iadd (q := 420) rfl rfl ?_
  obtain ⟨h3, k⟩ := k
  refine w_sald (q := 421) rfl rfl h3 h2 ?_
  refine w_callv (q := 424) rfl rfl rfl rfl rfl rfl ?_
  exact k
theorem b0_438 {xs : Nat → Int32} {xl : Nat} {I J : w_I} {b : Bool} {Q : Option Value → w_I → w_I → Bool → Prop} {l3 s0 : Int} (k : ((0 ≤ l3 + 1 ∧ l3 + 1 < (xl : Int)) ∧ xl ≤ 100000 ∧ w_C xs xl 225 [.ref 104, w_i (w_s xs (l3 + 1))] I J b (fun v Ic Jc bc => w_T xs xl 0 447 [some (.ref 100000), some (.ref 0), some (.ref 104), some (w_i l3)] [] (w_pv v [w_i s0]) Ic Jc bc Q))) : w_T xs xl 0 438 [some (.ref 100000), some (.ref 0), some (.ref 104), some (w_i l3)] [] [w_i s0] I J b Q := by
  refine w_aload_n (q := 439) rfl rfl rfl ?_
  refine w_aload_n (q := 440) rfl rfl rfl ?_
  refine w_iload_n (q := 441) rfl rfl rfl ?_
  refine w_iconst (q := 442) rfl rfl ?_
  refine w_iadd (q := 443) rfl rfl ?_
  obtain ⟨h1, h2, k⟩ := k
  refine w_sald (q := 444) rfl rfl h1 h2 ?_
  refine w_callv (q := 447) rfl rfl rfl rfl rfl rfl ?_
  exact k
theorem b0_466 {xs : Nat → Int32} {xl : Nat} {I J : w_I} {b : Bool} {Q : Option Value → w_I → w_I → Bool → Prop} {l3 s0 : Int} (k : ((0 ≤ l3 + 1 ∧ l3 + 1 < (xl : Int)) ∧ xl ≤ 100000 ∧ ((0 ≤ l3 + 2 ∧ l3 + 2 < (xl : Int)) ∧ w_C xs xl 226 [.ref 104, w_i (w_s xs (l3 + 1)), w_i (w_s xs (l3 + 2))] I J b (fun v Ic Jc bc => w_T xs xl 0 480 [some (.ref 100000), some (.ref 0), some (.ref 104), some (w_i l3)] [] (w_pv v [w_i s0]) Ic Jc bc Q)))) : w_T xs xl 0 466 [some (.ref 100000), some (.ref 0), some (.ref 104), some (w_i l3)] [] [w_i s0] I J b Q := by
  refine w_aload_n (q := 467) rfl rfl rfl ?_
  refine w_aload_n (q := 468) rfl rfl rfl ?_
  refine w_iload_n (q := 469) rfl rfl rfl ?_
  refine w_iconst (q := 470) rfl rfl ?_
  refine w_iadd (q := 471) rfl rfl ?_
  obtain ⟨h1, h2, k⟩ := k
  refine w_sald (q := 472) rfl rfl h1 h2 ?_
  refine w_aload_n (q := 473) rfl rfl rfl ?_
  refine w_iload_n (q := 474) rfl rfl rfl ?_
  refine w_iconst (q := 475) rfl rfl ?_
  refine w_iadd (q := 476) rfl rfl ?_
  obtain ⟨h3, k⟩ := k
  refine w_sald (q := 477) rfl rfl h3 h2 ?_
  refine w_callv (q := 480) rfl rfl rfl rfl rfl rfl ?_
  exact k
theorem b0_499 {xs : Nat → Int32} {xl : Nat} {I J : w_I} {b : Bool} {Q : Option Value → w_I → w_I → Bool → Prop} {l3 s0 : Int} (k : ((0 ≤ l3 + 1 ∧ l3 + 1 < (xl : Int)) ∧ xl ≤ 100000 ∧ ((0 ≤ l3 + 2 ∧ l3 + 2 < (xl : Int)) ∧ w_C xs xl 227 [.ref 104, w_i (w_s xs (l3 + 1)), w_i (w_s xs (l3 + 2))] I J b (fun v Ic Jc bc => w_T xs xl 0 513 [some (.ref 100000), some (.ref 0), some (.ref 104), some (w_i l3)] [] (w_pv v [w_i s0]) Ic Jc bc Q)))) : w_T xs xl 0 499 [some (.ref 100000), some (.ref 0), some (.ref 104), some (w_i l3)] [] [w_i s0] I J b Q := by
  refine w_aload_n (q := 500) rfl rfl rfl ?_
  refine w_aload_n (q := 501) rfl rfl rfl ?_
  refine w_iload_n (q := 502) rfl rfl rfl ?_
  refine w_iconst (q := 503) rfl rfl ?_
  refine w_iadd (q := 504) rfl rfl ?_
  obtain ⟨h1, h2, k⟩ := k
  refine w_sald (q := 505) rfl rfl h1 h2 ?_
  refine w_aload_n (q := 506) rfl rfl rfl ?_
  refine w_iload_n (q := 507) rfl rfl rfl ?_
  refine w_iconst (q := 508) rfl rfl ?_
  refine w_iadd (q := 509) rfl rfl ?_
  obtain ⟨h3, k⟩ := k
  refine w_sald (q := 510) rfl rfl h3 h2 ?_
  refine w_callv (q := 513) rfl rfl rfl rfl rfl rfl ?_
  exact k
theorem b0_532 {xs : Nat → Int32} {xl : Nat} {I J : w_I} {b : Bool} {Q : Option Value → w_I → w_I → Bool → Prop} {l3 s0 : Int} (k : ((0 ≤ l3 + 1 ∧ l3 + 1 < (xl : Int)) ∧ xl ≤ 100000 ∧ ((0 ≤ l3 + 2 ∧ l3 + 2 < (xl : Int)) ∧ w_C xs xl 228 [.ref 104, w_i (w_s xs (l3 + 1)), w_i (w_s xs (l3 + 2))] I J b (fun v Ic Jc bc => w_T xs xl 0 546 [some (.ref 100000), some (.ref 0), some (.ref 104), some (w_i l3)] [] (w_pv v [w_i s0]) Ic Jc bc Q)))) : w_T xs xl 0 532 [some (.ref 100000), some (.ref 0), some (.ref 104), some (w_i l3)] [] [w_i s0] I J b Q := by
  refine w_aload_n (q := 533) rfl rfl rfl ?_
  refine w_aload_n (q := 534) rfl rfl rfl ?_
  refine w_iload_n (q := 535) rfl rfl rfl ?_
  refine w_iconst (q := 536) rfl rfl ?_
  refine w_iadd (q := 537) rfl rfl ?_
  obtain ⟨h1, h2, k⟩ := k
  refine w_sald (q := 538) rfl rfl h1 h2 ?_
  refine w_aload_n (q := 539) rfl rfl rfl ?_
  refine w_iload_n (q := 540) rfl rfl rfl ?_
  refine w_iconst (q := 541) rfl rfl ?_
  refine w_iadd (q := 542) rfl rfl ?_
  obtain ⟨h3, k⟩ := k
  refine w_sald (q := 543) rfl rfl h3 h2 ?_
  refine w_callv (q := 546) rfl rfl rfl rfl rfl rfl ?_
  exact k
theorem b0_565 {xs : Nat → Int32} {xl : Nat} {I J : w_I} {b : Bool} {Q : Option Value → w_I → w_I → Bool → Prop} {l3 s0 : Int} (k : ((0 ≤ l3 + 1 ∧ l3 + 1 < (xl : Int)) ∧ xl ≤ 100000 ∧ ((0 ≤ l3 + 2 ∧ l3 + 2 < (xl : Int)) ∧ w_C xs xl 229 [.ref 104, w_i (w_s xs (l3 + 1)), w_i (w_s xs (l3 + 2))] I J b (fun v Ic Jc bc => w_T xs xl 0 579 [some (.ref 100000), some (.ref 0), some (.ref 104), some (w_i l3)] [] (w_pv v [w_i s0]) Ic Jc bc Q)))) : w_T xs xl 0 565 [some (.ref 100000), some (.ref 0), some (.ref 104), some (w_i l3)] [] [w_i s0] I J b Q := by
  refine w_aload_n (q := 566) rfl rfl rfl ?_
  refine w_aload_n (q := 567) rfl rfl rfl ?_
  refine w_iload_n (q := 568) rfl rfl rfl ?_
  refine w_iconst (q := 569) rfl rfl ?_
  refine w_iadd (q := 570) rfl rfl ?_
  obtain ⟨h1, h2, k⟩ := k
  refine w_sald (q := 571) rfl rfl h1 h2 ?_
  refine w_aload_n (q := 572) rfl rfl rfl ?_
  refine w_iload_n (q := 573) rfl rfl rfl ?_
  refine w_iconst (q := 574) rfl rfl ?_
  refine w_iadd (q := 575) rfl rfl ?_
  obtain ⟨h3, k⟩ := k
  refine w_sald (q := 576) rfl rfl h3 h2 ?_
  refine w_callv (q := 579) rfl rfl rfl rfl rfl rfl ?_
  exact k
theorem b0_593 {xs : Nat → Int32} {xl : Nat} {I J : w_I} {b : Bool} {Q : Option Value → w_I → w_I → Bool → Prop} {l3 s0 : Int} (k : ((0 ≤ l3 + 1 ∧ l3 + 1 < (xl : Int)) ∧ xl ≤ 100000 ∧ w_C xs xl 230 [.ref 104, w_i (w_s xs (l3 + 1))] I J b (fun v Ic Jc bc => w_T xs xl 0 602 [some (.ref 100000), some (.ref 0), some (.ref 104), some (w_i l3)] [] (w_pv v [w_i s0]) Ic Jc bc Q))) : w_T xs xl 0 593 [some (.ref 100000), some (.ref 0), some (.ref 104), some (w_i l3)] [] [w_i s0] I J b Q := by
  refine w_aload_n (q := 594) rfl rfl rfl ?_
  refine w_aload_n (q := 595) rfl rfl rfl ?_
  refine w_iload_n (q := 596) rfl rfl rfl ?_
  refine w_iconst (q := 597) rfl rfl ?_
  refine w_iadd (q := 598) rfl rfl ?_
  obtain ⟨h1, h2, k⟩ := k
  refine w_sald (q := 599) rfl rfl h1 h2 ?_
  refine w_callv (q := 602) rfl rfl rfl rfl rfl rfl ?_
  exact k
theorem b0_616 {xs : Nat → Int32} {xl : Nat} {I J : w_I} {b : Bool} {Q : Option Value → w_I → w_I → Bool → Prop} {l3 s0 : Int} (k : ((0 ≤ l3 + 1 ∧ l3 + 1 < (xl : Int)) ∧ xl ≤ 100000 ∧ w_C xs xl 234 [.ref 104, w_i (w_s xs (l3 + 1))] I J b (fun v Ic Jc bc => w_T xs xl 0 625 [some (.ref 100000), some (.ref 0), some (.ref 104), some (w_i l3)] [] (w_pv v [w_i s0]) Ic Jc bc Q))) : w_T xs xl 0 616 [some (.ref 100000), some (.ref 0), some (.ref 104), some (w_i l3)] [] [w_i s0] I J b Q := by
  refine w_aload_n (q := 617) rfl rfl rfl ?_
  refine w_aload_n (q := 618) rfl rfl rfl ?_
  refine w_iload_n (q := 619) rfl rfl rfl ?_
  refine w_iconst (q := 620) rfl rfl ?_
  refine w_iadd (q := 621) rfl rfl ?_
  obtain ⟨h1, h2, k⟩ := k
  refine w_sald (q := 622) rfl rfl h1 h2 ?_
  refine w_callv (q := 625) rfl rfl rfl rfl rfl rfl ?_
  exact k
theorem b0_639 {xs : Nat → Int32} {xl : Nat} {I J : w_I} {b : Bool} {Q : Option Value → w_I → w_I → Bool → Prop} {l3 s0 : Int} (k : ((0 ≤ l3 + 1 ∧ l3 + 1 < (xl : Int)) ∧ xl ≤ 100000 ∧ w_C xs xl 235 [.ref 104, w_i (w_s xs (l3 + 1))] I J b (fun v Ic Jc bc => w_T xs xl 0 648 [some (.ref 100000), some (.ref 0), some (.ref 104), some (w_i l3)] [] (w_pv v [w_i s0]) Ic Jc bc Q))) : w_T xs xl 0 639 [some (.ref 100000), some (.ref 0), some (.ref 104), some (w_i l3)] [] [w_i s0] I J b Q := by
  refine w_aload_n (q := 640) rfl rfl rfl ?_
  refine w_aload_n (q := 641) rfl rfl rfl ?_
  refine w_iload_n (q := 642) rfl rfl rfl ?_
  refine w_iconst (q := 643) rfl rfl ?_
  refine w_iadd (q := 644) rfl rfl ?_
  obtain ⟨h1, h2, k⟩ := k
  refine w_sald (q := 645) rfl rfl h1 h2 ?_
  refine w_callv (q := 648) rfl rfl rfl rfl rfl rfl ?_
  exact k
theorem b0_662 {xs : Nat → Int32} {xl : Nat} {I J : w_I} {b : Bool} {Q : Option Value → w_I → w_I → Bool → Prop} {l3 s0 : Int} (k : ((0 ≤ l3 + 1 ∧ l3 + 1 < (xl : Int)) ∧ xl ≤ 100000 ∧ w_C xs xl 240 [.ref 104, w_i (w_s xs (l3 + 1))] I J b (fun v Ic Jc bc => w_T xs xl 0 671 [some (.ref 100000), some (.ref 0), some (.ref 104), some (w_i l3)] [] (w_pv v [w_i s0]) Ic Jc bc Q))) : w_T xs xl 0 662 [some (.ref 100000), some (.ref 0), some (.ref 104), some (w_i l3)] [] [w_i s0] I J b Q := by
  refine w_aload_n (q := 663) rfl rfl rfl ?_
  refine w_aload_n (q := 664) rfl rfl rfl ?_
  refine w_iload_n (q := 665) rfl rfl rfl ?_
  refine w_iconst (q := 666) rfl rfl ?_
  refine w_iadd (q := 667) rfl rfl ?_
  obtain ⟨h1, h2, k⟩ := k
  refine w_sald (q := 668) rfl rfl h1 h2 ?_
  refine w_callv (q := 671) rfl rfl rfl rfl rfl rfl ?_
  exact k
theorem b0_690 {xs : Nat → Int32} {xl : Nat} {I J : w_I} {b : Bool} {Q : Option Value → w_I → w_I → Bool → Prop} {l3 s0 : Int} (k : ((0 ≤ l3 + 1 ∧ l3 + 1 < (xl : Int)) ∧ xl ≤ 100000 ∧ ((0 ≤ l3 + 2 ∧ l3 + 2 < (xl : Int)) ∧ w_C xs xl 247 [.ref 104, w_i (w_s xs (l3 + 1)), w_i (w_s xs (l3 + 2))] I J b (fun v Ic Jc bc => w_T xs xl 0 704 [some (.ref 100000), some (.ref 0), some (.ref 104), some (w_i l3)] [] (w_pv v [w_i s0]) Ic Jc bc Q)))) : w_T xs xl 0 690 [some (.ref 100000), some (.ref 0), some (.ref 104), some (w_i l3)] [] [w_i s0] I J b Q := by
  refine w_aload_n (q := 691) rfl rfl rfl ?_
  refine w_aload_n (q := 692) rfl rfl rfl ?_
  refine w_iload_n (q := 693) rfl rfl rfl ?_
  refine w_iconst (q := 694) rfl rfl ?_
  refine w_iadd (q := 695) rfl rfl ?_
  obtain ⟨h1, h2, k⟩ := k
  refine w_sald (q := 696) rfl rfl h1 h2 ?_
  refine w_aload_n (q := 697) rfl rfl rfl ?_
  refine w_iload_n (q := 698) rfl rfl rfl ?_
  refine w_iconst (q := 699) rfl rfl ?_
  refine w_iadd (q := 700) rfl rfl ?_
  obtain ⟨h3, k⟩ := k
  refine w_sald (q := 701) rfl rfl h3 h2 ?_
  refine w_callv (q := 704) rfl rfl rfl rfl rfl rfl ?_
  exact k
theorem b0_723 {xs : Nat → Int32} {xl : Nat} {I J : w_I} {b : Bool} {Q : Option Value → w_I → w_I → Bool → Prop} {l3 s0 : Int} (k : ((0 ≤ l3 + 1 ∧ l3 + 1 < (xl : Int)) ∧ xl ≤ 100000 ∧ ((0 ≤ l3 + 2 ∧ l3 + 2 < (xl : Int)) ∧ w_C xs xl 248 [.ref 104, w_i (w_s xs (l3 + 1)), w_i (w_s xs (l3 + 2))] I J b (fun v Ic Jc bc => w_T xs xl 0 737 [some (.ref 100000), some (.ref 0), some (.ref 104), some (w_i l3)] [] (w_pv v [w_i s0]) Ic Jc bc Q)))) : w_T xs xl 0 723 [some (.ref 100000), some (.ref 0), some (.ref 104), some (w_i l3)] [] [w_i s0] I J b Q := by
  refine w_aload_n (q := 724) rfl rfl rfl ?_
  refine w_aload_n (q := 725) rfl rfl rfl ?_
  refine w_iload_n (q := 726) rfl rfl rfl ?_
  refine w_iconst (q := 727) rfl rfl ?_
  refine w_iadd (q := 728) rfl rfl ?_
  obtain ⟨h1, h2, k⟩ := k
  refine w_sald (q := 729) rfl rfl h1 h2 ?_
  refine w_aload_n (q := 730) rfl rfl rfl ?_
  refine w_iload_n (q := 731) rfl rfl rfl ?_
  refine w_iconst (q := 732) rfl rfl ?_
  refine w_iadd (q := 733) rfl rfl ?_
  obtain ⟨h3, k⟩ := k
  refine w_sald (q := 734) rfl rfl h3 h2 ?_
  refine w_callv (q := 737) rfl rfl rfl rfl rfl rfl ?_
  exact k
theorem b0_751 {xs : Nat → Int32} {xl : Nat} {I J : w_I} {b : Bool} {Q : Option Value → w_I → w_I → Bool → Prop} {l3 s0 : Int} (k : ((0 ≤ l3 + 1 ∧ l3 + 1 < (xl : Int)) ∧ xl ≤ 100000 ∧ w_C xs xl 250 [.ref 104, w_i (w_s xs (l3 + 1))] I J b (fun v Ic Jc bc => w_T xs xl 0 760 [some (.ref 100000), some (.ref 0), some (.ref 104), some (w_i l3)] [] (w_pv v [w_i s0]) Ic Jc bc Q))) : w_T xs xl 0 751 [some (.ref 100000), some (.ref 0), some (.ref 104), some (w_i l3)] [] [w_i s0] I J b Q := by
  refine w_aload_n (q := 752) rfl rfl rfl ?_
  refine w_aload_n (q := 753) rfl rfl rfl ?_
  refine w_iload_n (q := 754) rfl rfl rfl ?_
  refine w_iconst (q := 755) rfl rfl ?_
  refine w_iadd (q := 756) rfl rfl ?_
  obtain ⟨h1, h2, k⟩ := k
  refine w_sald (q := 757) rfl rfl h1 h2 ?_
  refine w_callv (q := 760) rfl rfl rfl rfl rfl rfl ?_
  exact k
theorem b0_774 {xs : Nat → Int32} {xl : Nat} {I J : w_I} {b : Bool} {Q : Option Value → w_I → w_I → Bool → Prop} {l3 s0 : Int} (k : ((0 ≤ l3 + 1 ∧ l3 + 1 < (xl : Int)) ∧ xl ≤ 100000 ∧ w_C xs xl 251 [.ref 104, w_i (w_s xs (l3 + 1))] I J b (fun v Ic Jc bc => w_T xs xl 0 783 [some (.ref 100000), some (.ref 0), some (.ref 104), some (w_i l3)] [] (w_pv v [w_i s0]) Ic Jc bc Q))) : w_T xs xl 0 774 [some (.ref 100000), some (.ref 0), some (.ref 104), some (w_i l3)] [] [w_i s0] I J b Q := by
  refine w_aload_n (q := 775) rfl rfl rfl ?_
  refine w_aload_n (q := 776) rfl rfl rfl ?_
  refine w_iload_n (q := 777) rfl rfl rfl ?_
  refine w_iconst (q := 778) rfl rfl ?_
  refine w_iadd (q := 779) rfl rfl ?_
  obtain ⟨h1, h2, k⟩ := k
  refine w_sald (q := 780) rfl rfl h1 h2 ?_
  refine w_callv (q := 783) rfl rfl rfl rfl rfl rfl ?_
  exact k
theorem b0_792 {xs : Nat → Int32} {xl : Nat} {I J : w_I} {b : Bool} {Q : Option Value → w_I → w_I → Bool → Prop} {l3 s0 : Int} (k : w_C xs xl 253 [.ref 104] I J b (fun v Ic Jc bc => w_T xs xl 0 796 [some (.ref 100000), some (.ref 0), some (.ref 104), some (w_i l3)] [] (w_pv v [w_i s0]) Ic Jc bc Q)) : w_T xs xl 0 792 [some (.ref 100000), some (.ref 0), some (.ref 104), some (w_i l3)] [] [w_i s0] I J b Q := by
  refine w_aload_n (q := 793) rfl rfl rfl ?_
  refine w_callv (q := 796) rfl rfl rfl rfl rfl rfl ?_
  exact k
theorem b0_818 {xs : Nat → Int32} {xl : Nat} {I J : w_I} {b : Bool} {Q : Option Value → w_I → w_I → Bool → Prop} {l3 s0 : Int} (k : ((0 ≤ l3 + 1 ∧ l3 + 1 < (xl : Int)) ∧ xl ≤ 100000 ∧ ((-2147483648 ≤ w_s xs (l3 + 1) ∧ w_s xs (l3 + 1) < 2147483648) ∧ ((w_s xs (l3 + 1) = 0 → w_C xs xl 254 [.ref 104, w_i 0] I J b (fun v Ic Jc bc => w_T xs xl 0 835 [some (.ref 100000), some (.ref 0), some (.ref 104), some (w_i l3)] [] (w_pv v [w_i s0]) Ic Jc bc Q)) ∧ (¬ w_s xs (l3 + 1) = 0 → w_C xs xl 254 [.ref 104, w_i 1] I J b (fun v Ic Jc bc => w_T xs xl 0 835 [some (.ref 100000), some (.ref 0), some (.ref 104), some (w_i l3)] [] (w_pv v [w_i s0]) Ic Jc bc Q)))))) : w_T xs xl 0 818 [some (.ref 100000), some (.ref 0), some (.ref 104), some (w_i l3)] [] [w_i s0] I J b Q := by
  refine w_aload_n (q := 819) rfl rfl rfl ?_
  refine w_aload_n (q := 820) rfl rfl rfl ?_
  refine w_iload_n (q := 821) rfl rfl rfl ?_
  refine w_iconst (q := 822) rfl rfl ?_
  refine w_iadd (q := 823) rfl rfl ?_
  obtain ⟨h1, h2, k⟩ := k
  refine w_sald (q := 824) rfl rfl h1 h2 ?_
  obtain ⟨h3, k⟩ := k
  refine w_zeq (t := 831) (q := 827) rfl rfl rfl h3 (fun c4 => ?_) (fun c4 => ?_)
  · replace k := k.1 c4
    refine w_iconst (q := 832) rfl rfl ?_
    refine w_callv (q := 835) rfl rfl rfl rfl rfl rfl ?_
    exact k
  · replace k := k.2 c4
    refine w_iconst (q := 828) rfl rfl ?_
    refine w_goto (t := 832) rfl rfl ?_
    refine w_callv (q := 835) rfl rfl rfl rfl rfl rfl ?_
    exact k
theorem b0_844 {xs : Nat → Int32} {xl : Nat} {I J : w_I} {b : Bool} {Q : Option Value → w_I → w_I → Bool → Prop} {l3 s0 : Int} (k : w_C xs xl 255 [.ref 104] I J b (fun v Ic Jc bc => w_T xs xl 0 848 [some (.ref 100000), some (.ref 0), some (.ref 104), some (w_i l3)] [] (w_pv v [w_i s0]) Ic Jc bc Q)) : w_T xs xl 0 844 [some (.ref 100000), some (.ref 0), some (.ref 104), some (w_i l3)] [] [w_i s0] I J b Q := by
  refine w_aload_n (q := 845) rfl rfl rfl ?_
  refine w_callv (q := 848) rfl rfl rfl rfl rfl rfl ?_
  exact k
theorem b0_862 {xs : Nat → Int32} {xl : Nat} {I J : w_I} {b : Bool} {Q : Option Value → w_I → w_I → Bool → Prop} {l3 s0 : Int} (k : ((0 ≤ l3 + 1 ∧ l3 + 1 < (xl : Int)) ∧ xl ≤ 100000 ∧ w_C xs xl 260 [.ref 104, w_i (w_s xs (l3 + 1))] I J b (fun v Ic Jc bc => w_T xs xl 0 871 [some (.ref 100000), some (.ref 0), some (.ref 104), some (w_i l3)] [] (w_pv v [w_i s0]) Ic Jc bc Q))) : w_T xs xl 0 862 [some (.ref 100000), some (.ref 0), some (.ref 104), some (w_i l3)] [] [w_i s0] I J b Q := by
  refine w_aload_n (q := 863) rfl rfl rfl ?_
  refine w_aload_n (q := 864) rfl rfl rfl ?_
  refine w_iload_n (q := 865) rfl rfl rfl ?_
  refine w_iconst (q := 866) rfl rfl ?_
  refine w_iadd (q := 867) rfl rfl ?_
  obtain ⟨h1, h2, k⟩ := k
  refine w_sald (q := 868) rfl rfl h1 h2 ?_
  refine w_callv (q := 871) rfl rfl rfl rfl rfl rfl ?_
  exact k
theorem b0_895 {xs : Nat → Int32} {xl : Nat} {I J : w_I} {b : Bool} {Q : Option Value → w_I → w_I → Bool → Prop} {l3 s0 : Int} (k : ((0 ≤ l3 + 1 ∧ l3 + 1 < (xl : Int)) ∧ xl ≤ 100000 ∧ ((0 ≤ l3 + 2 ∧ l3 + 2 < (xl : Int)) ∧ ((0 ≤ l3 + 3 ∧ l3 + 3 < (xl : Int)) ∧ w_C xs xl 261 [.ref 104, w_i (w_s xs (l3 + 1)), w_i (w_s xs (l3 + 2)), w_i (w_s xs (l3 + 3))] I J b (fun v Ic Jc bc => w_T xs xl 0 914 [some (.ref 100000), some (.ref 0), some (.ref 104), some (w_i l3)] [] (w_pv v [w_i s0]) Ic Jc bc Q))))) : w_T xs xl 0 895 [some (.ref 100000), some (.ref 0), some (.ref 104), some (w_i l3)] [] [w_i s0] I J b Q := by
  refine w_aload_n (q := 896) rfl rfl rfl ?_
  refine w_aload_n (q := 897) rfl rfl rfl ?_
  refine w_iload_n (q := 898) rfl rfl rfl ?_
  refine w_iconst (q := 899) rfl rfl ?_
  refine w_iadd (q := 900) rfl rfl ?_
  obtain ⟨h1, h2, k⟩ := k
  refine w_sald (q := 901) rfl rfl h1 h2 ?_
  refine w_aload_n (q := 902) rfl rfl rfl ?_
  refine w_iload_n (q := 903) rfl rfl rfl ?_
  refine w_iconst (q := 904) rfl rfl ?_
  refine w_iadd (q := 905) rfl rfl ?_
  obtain ⟨h3, k⟩ := k
  refine w_sald (q := 906) rfl rfl h3 h2 ?_
  refine w_aload_n (q := 907) rfl rfl rfl ?_
  refine w_iload_n (q := 908) rfl rfl rfl ?_
  refine w_iconst (q := 909) rfl rfl ?_
  refine w_iadd (q := 910) rfl rfl ?_
  obtain ⟨h4, k⟩ := k
  refine w_sald (q := 911) rfl rfl h4 h2 ?_
  refine w_callv (q := 914) rfl rfl rfl rfl rfl rfl ?_
  exact k
theorem b0_923 {xs : Nat → Int32} {xl : Nat} {I J : w_I} {b : Bool} {Q : Option Value → w_I → w_I → Bool → Prop} {l3 s0 : Int} (k : w_C xs xl 262 [.ref 104] I J b (fun v Ic Jc bc => w_T xs xl 0 927 [some (.ref 100000), some (.ref 0), some (.ref 104), some (w_i l3)] [] (w_pv v [w_i s0]) Ic Jc bc Q)) : w_T xs xl 0 923 [some (.ref 100000), some (.ref 0), some (.ref 104), some (w_i l3)] [] [w_i s0] I J b Q := by
  refine w_aload_n (q := 924) rfl rfl rfl ?_
  refine w_callv (q := 927) rfl rfl rfl rfl rfl rfl ?_
  exact k
theorem b0_936 {xs : Nat → Int32} {xl : Nat} {I J : w_I} {b : Bool} {Q : Option Value → w_I → w_I → Bool → Prop} {l3 s0 : Int} (k : w_C xs xl 267 [.ref 104] I J b (fun v Ic Jc bc => w_T xs xl 0 940 [some (.ref 100000), some (.ref 0), some (.ref 104), some (w_i l3)] [] (w_pv v [w_i s0]) Ic Jc bc Q)) : w_T xs xl 0 936 [some (.ref 100000), some (.ref 0), some (.ref 104), some (w_i l3)] [] [w_i s0] I J b Q := by
  refine w_aload_n (q := 937) rfl rfl rfl ?_
  refine w_callv (q := 940) rfl rfl rfl rfl rfl rfl ?_
  exact k
theorem b0_949 {xs : Nat → Int32} {xl : Nat} {I J : w_I} {b : Bool} {Q : Option Value → w_I → w_I → Bool → Prop} {l3 s0 : Int} (k : w_C xs xl 268 [.ref 104] I J b (fun v Ic Jc bc => w_T xs xl 0 953 [some (.ref 100000), some (.ref 0), some (.ref 104), some (w_i l3)] [] (w_pv v [w_i s0]) Ic Jc bc Q)) : w_T xs xl 0 949 [some (.ref 100000), some (.ref 0), some (.ref 104), some (w_i l3)] [] [w_i s0] I J b Q := by
  refine w_aload_n (q := 950) rfl rfl rfl ?_
  refine w_callv (q := 953) rfl rfl rfl rfl rfl rfl ?_
  exact k
theorem b0_972 {xs : Nat → Int32} {xl : Nat} {I J : w_I} {b : Bool} {Q : Option Value → w_I → w_I → Bool → Prop} {l3 s0 : Int} (k : ((0 ≤ l3 + 1 ∧ l3 + 1 < (xl : Int)) ∧ xl ≤ 100000 ∧ ((0 ≤ l3 + 2 ∧ l3 + 2 < (xl : Int)) ∧ w_C xs xl 270 [.ref 104, w_i (w_s xs (l3 + 1)), w_i (w_s xs (l3 + 2))] I J b (fun v Ic Jc bc => w_T xs xl 0 986 [some (.ref 100000), some (.ref 0), some (.ref 104), some (w_i l3)] [] (w_pv v [w_i s0]) Ic Jc bc Q)))) : w_T xs xl 0 972 [some (.ref 100000), some (.ref 0), some (.ref 104), some (w_i l3)] [] [w_i s0] I J b Q := by
  refine w_aload_n (q := 973) rfl rfl rfl ?_
  refine w_aload_n (q := 974) rfl rfl rfl ?_
  refine w_iload_n (q := 975) rfl rfl rfl ?_
  refine w_iconst (q := 976) rfl rfl ?_
  refine w_iadd (q := 977) rfl rfl ?_
  obtain ⟨h1, h2, k⟩ := k
  refine w_sald (q := 978) rfl rfl h1 h2 ?_
  refine w_aload_n (q := 979) rfl rfl rfl ?_
  refine w_iload_n (q := 980) rfl rfl rfl ?_
  refine w_iconst (q := 981) rfl rfl ?_
  refine w_iadd (q := 982) rfl rfl ?_
  obtain ⟨h3, k⟩ := k
  refine w_sald (q := 983) rfl rfl h3 h2 ?_
  refine w_callv (q := 986) rfl rfl rfl rfl rfl rfl ?_
  exact k
theorem b0_1000 {xs : Nat → Int32} {xl : Nat} {I J : w_I} {b : Bool} {Q : Option Value → w_I → w_I → Bool → Prop} {l3 s0 : Int} (k : ((0 ≤ l3 + 1 ∧ l3 + 1 < (xl : Int)) ∧ xl ≤ 100000 ∧ w_C xs xl 271 [.ref 104, w_i (w_s xs (l3 + 1))] I J b (fun v Ic Jc bc => w_T xs xl 0 1009 [some (.ref 100000), some (.ref 0), some (.ref 104), some (w_i l3)] [] (w_pv v [w_i s0]) Ic Jc bc Q))) : w_T xs xl 0 1000 [some (.ref 100000), some (.ref 0), some (.ref 104), some (w_i l3)] [] [w_i s0] I J b Q := by
  refine w_aload_n (q := 1001) rfl rfl rfl ?_
  refine w_aload_n (q := 1002) rfl rfl rfl ?_
  refine w_iload_n (q := 1003) rfl rfl rfl ?_
  refine w_iconst (q := 1004) rfl rfl ?_
  refine w_iadd (q := 1005) rfl rfl ?_
  obtain ⟨h1, h2, k⟩ := k
  refine w_sald (q := 1006) rfl rfl h1 h2 ?_
  refine w_callv (q := 1009) rfl rfl rfl rfl rfl rfl ?_
  exact k
theorem b0_1028 {xs : Nat → Int32} {xl : Nat} {I J : w_I} {b : Bool} {Q : Option Value → w_I → w_I → Bool → Prop} {l3 s0 : Int} (k : ((0 ≤ l3 + 1 ∧ l3 + 1 < (xl : Int)) ∧ xl ≤ 100000 ∧ ((0 ≤ l3 + 2 ∧ l3 + 2 < (xl : Int)) ∧ w_C xs xl 273 [.ref 104, w_i (w_s xs (l3 + 1)), w_i (w_s xs (l3 + 2))] I J b (fun v Ic Jc bc => w_T xs xl 0 1042 [some (.ref 100000), some (.ref 0), some (.ref 104), some (w_i l3)] [] (w_pv v [w_l s0]) Ic Jc bc Q)))) : w_T xs xl 0 1028 [some (.ref 100000), some (.ref 0), some (.ref 104), some (w_i l3)] [] [w_l s0] I J b Q := by
  refine w_aload_n (q := 1029) rfl rfl rfl ?_
  refine w_aload_n (q := 1030) rfl rfl rfl ?_
  refine w_iload_n (q := 1031) rfl rfl rfl ?_
  refine w_iconst (q := 1032) rfl rfl ?_
  refine w_iadd (q := 1033) rfl rfl ?_
  obtain ⟨h1, h2, k⟩ := k
  refine w_sald (q := 1034) rfl rfl h1 h2 ?_
  refine w_aload_n (q := 1035) rfl rfl rfl ?_
  refine w_iload_n (q := 1036) rfl rfl rfl ?_
  refine w_iconst (q := 1037) rfl rfl ?_
  refine w_iadd (q := 1038) rfl rfl ?_
  obtain ⟨h3, k⟩ := k
  refine w_sald (q := 1039) rfl rfl h3 h2 ?_
  refine w_callv (q := 1042) rfl rfl rfl rfl rfl rfl ?_
  exact k
theorem b0_1075 {xs : Nat → Int32} {xl : Nat} {I J : w_I} {b : Bool} {Q : Option Value → w_I → w_I → Bool → Prop} {l3 s0 : Int} (k : ((0 ≤ l3 + 1 ∧ l3 + 1 < (xl : Int)) ∧ xl ≤ 100000 ∧ ((0 ≤ l3 + 2 ∧ l3 + 2 < (xl : Int)) ∧ ((0 ≤ l3 + 3 ∧ l3 + 3 < (xl : Int)) ∧ ((-2147483648 ≤ w_s xs (l3 + 3) ∧ w_s xs (l3 + 3) < 2147483648) ∧ ((w_s xs (l3 + 3) = 0 → w_C xs xl 275 [.ref 104, w_i (w_s xs (l3 + 1)), w_i (w_s xs (l3 + 2)), w_i 0] I J b (fun v Ic Jc bc => w_T xs xl 0 1102 [some (.ref 100000), some (.ref 0), some (.ref 104), some (w_i l3)] [] (w_pv v [w_i s0]) Ic Jc bc Q)) ∧ (¬ w_s xs (l3 + 3) = 0 → w_C xs xl 275 [.ref 104, w_i (w_s xs (l3 + 1)), w_i (w_s xs (l3 + 2)), w_i 1] I J b (fun v Ic Jc bc => w_T xs xl 0 1102 [some (.ref 100000), some (.ref 0), some (.ref 104), some (w_i l3)] [] (w_pv v [w_i s0]) Ic Jc bc Q)))))))) : w_T xs xl 0 1075 [some (.ref 100000), some (.ref 0), some (.ref 104), some (w_i l3)] [] [w_i s0] I J b Q := by
  refine w_aload_n (q := 1076) rfl rfl rfl ?_
  refine w_aload_n (q := 1077) rfl rfl rfl ?_
  refine w_iload_n (q := 1078) rfl rfl rfl ?_
  refine w_iconst (q := 1079) rfl rfl ?_
  refine w_iadd (q := 1080) rfl rfl ?_
  obtain ⟨h1, h2, k⟩ := k
  refine w_sald (q := 1081) rfl rfl h1 h2 ?_
  refine w_aload_n (q := 1082) rfl rfl rfl ?_
  refine w_iload_n (q := 1083) rfl rfl rfl ?_
  refine w_iconst (q := 1084) rfl rfl ?_
  refine w_iadd (q := 1085) rfl rfl ?_
  obtain ⟨h3, k⟩ := k
  refine w_sald (q := 1086) rfl rfl h3 h2 ?_
  refine w_aload_n (q := 1087) rfl rfl rfl ?_
  refine w_iload_n (q := 1088) rfl rfl rfl ?_
  refine w_iconst (q := 1089) rfl rfl ?_
  refine w_iadd (q := 1090) rfl rfl ?_
  obtain ⟨h4, k⟩ := k
  refine w_sald (q := 1091) rfl rfl h4 h2 ?_
  obtain ⟨h5, k⟩ := k
  refine w_zeq (t := 1098) (q := 1094) rfl rfl rfl h5 (fun c6 => ?_) (fun c6 => ?_)
  · replace k := k.1 c6
    refine w_iconst (q := 1099) rfl rfl ?_
    refine w_callv (q := 1102) rfl rfl rfl rfl rfl rfl ?_
    exact k
  · replace k := k.2 c6
    refine w_iconst (q := 1095) rfl rfl ?_
    refine w_goto (t := 1099) rfl rfl ?_
    refine w_callv (q := 1102) rfl rfl rfl rfl rfl rfl ?_
    exact k
theorem b0_1126 {xs : Nat → Int32} {xl : Nat} {I J : w_I} {b : Bool} {Q : Option Value → w_I → w_I → Bool → Prop} {l3 s0 : Int} (k : ((0 ≤ l3 + 1 ∧ l3 + 1 < (xl : Int)) ∧ xl ≤ 100000 ∧ ((0 ≤ l3 + 2 ∧ l3 + 2 < (xl : Int)) ∧ ((0 ≤ l3 + 3 ∧ l3 + 3 < (xl : Int)) ∧ w_C xs xl 284 [.ref 104, w_i (w_s xs (l3 + 1)), w_i (w_s xs (l3 + 2)), w_i (w_s xs (l3 + 3))] I J b (fun v Ic Jc bc => w_T xs xl 0 1145 [some (.ref 100000), some (.ref 0), some (.ref 104), some (w_i l3)] [] (w_pv v [w_i s0]) Ic Jc bc Q))))) : w_T xs xl 0 1126 [some (.ref 100000), some (.ref 0), some (.ref 104), some (w_i l3)] [] [w_i s0] I J b Q := by
  refine w_aload_n (q := 1127) rfl rfl rfl ?_
  refine w_aload_n (q := 1128) rfl rfl rfl ?_
  refine w_iload_n (q := 1129) rfl rfl rfl ?_
  refine w_iconst (q := 1130) rfl rfl ?_
  refine w_iadd (q := 1131) rfl rfl ?_
  obtain ⟨h1, h2, k⟩ := k
  refine w_sald (q := 1132) rfl rfl h1 h2 ?_
  refine w_aload_n (q := 1133) rfl rfl rfl ?_
  refine w_iload_n (q := 1134) rfl rfl rfl ?_
  refine w_iconst (q := 1135) rfl rfl ?_
  refine w_iadd (q := 1136) rfl rfl ?_
  obtain ⟨h3, k⟩ := k
  refine w_sald (q := 1137) rfl rfl h3 h2 ?_
  refine w_aload_n (q := 1138) rfl rfl rfl ?_
  refine w_iload_n (q := 1139) rfl rfl rfl ?_
  refine w_iconst (q := 1140) rfl rfl ?_
  refine w_iadd (q := 1141) rfl rfl ?_
  obtain ⟨h4, k⟩ := k
  refine w_sald (q := 1142) rfl rfl h4 h2 ?_
  refine w_callv (q := 1145) rfl rfl rfl rfl rfl rfl ?_
  exact k
theorem b0_1159 {xs : Nat → Int32} {xl : Nat} {I J : w_I} {b : Bool} {Q : Option Value → w_I → w_I → Bool → Prop} {l3 s0 : Int} (k : ((0 ≤ l3 + 1 ∧ l3 + 1 < (xl : Int)) ∧ xl ≤ 100000 ∧ w_C xs xl 202 [.ref 104, w_i (w_s xs (l3 + 1))] I J b (fun v Ic Jc bc => w_T xs xl 0 1168 [some (.ref 100000), some (.ref 0), some (.ref 104), some (w_i l3)] [] (w_pv v [w_i s0]) Ic Jc bc Q))) : w_T xs xl 0 1159 [some (.ref 100000), some (.ref 0), some (.ref 104), some (w_i l3)] [] [w_i s0] I J b Q := by
  refine w_aload_n (q := 1160) rfl rfl rfl ?_
  refine w_aload_n (q := 1161) rfl rfl rfl ?_
  refine w_iload_n (q := 1162) rfl rfl rfl ?_
  refine w_iconst (q := 1163) rfl rfl ?_
  refine w_iadd (q := 1164) rfl rfl ?_
  obtain ⟨h1, h2, k⟩ := k
  refine w_sald (q := 1165) rfl rfl h1 h2 ?_
  refine w_callv (q := 1168) rfl rfl rfl rfl rfl rfl ?_
  exact k
theorem b0_1182 {xs : Nat → Int32} {xl : Nat} {I J : w_I} {b : Bool} {Q : Option Value → w_I → w_I → Bool → Prop} {l3 s0 : Int} (k : ((0 ≤ l3 + 1 ∧ l3 + 1 < (xl : Int)) ∧ xl ≤ 100000 ∧ w_C xs xl 203 [.ref 104, w_i (w_s xs (l3 + 1))] I J b (fun v Ic Jc bc => w_T xs xl 0 1191 [some (.ref 100000), some (.ref 0), some (.ref 104), some (w_i l3)] [] (w_pv v [w_i s0]) Ic Jc bc Q))) : w_T xs xl 0 1182 [some (.ref 100000), some (.ref 0), some (.ref 104), some (w_i l3)] [] [w_i s0] I J b Q := by
  refine w_aload_n (q := 1183) rfl rfl rfl ?_
  refine w_aload_n (q := 1184) rfl rfl rfl ?_
  refine w_iload_n (q := 1185) rfl rfl rfl ?_
  refine w_iconst (q := 1186) rfl rfl ?_
  refine w_iadd (q := 1187) rfl rfl ?_
  obtain ⟨h1, h2, k⟩ := k
  refine w_sald (q := 1188) rfl rfl h1 h2 ?_
  refine w_callv (q := 1191) rfl rfl rfl rfl rfl rfl ?_
  exact k
theorem b0_1205 {xs : Nat → Int32} {xl : Nat} {I J : w_I} {b : Bool} {Q : Option Value → w_I → w_I → Bool → Prop} {l3 s0 : Int} (k : ((0 ≤ l3 + 1 ∧ l3 + 1 < (xl : Int)) ∧ xl ≤ 100000 ∧ w_C xs xl 285 [.ref 104, w_i (w_s xs (l3 + 1))] I J b (fun v Ic Jc bc => w_T xs xl 0 1214 [some (.ref 100000), some (.ref 0), some (.ref 104), some (w_i l3)] [] (w_pv v [w_i s0]) Ic Jc bc Q))) : w_T xs xl 0 1205 [some (.ref 100000), some (.ref 0), some (.ref 104), some (w_i l3)] [] [w_i s0] I J b Q := by
  refine w_aload_n (q := 1206) rfl rfl rfl ?_
  refine w_aload_n (q := 1207) rfl rfl rfl ?_
  refine w_iload_n (q := 1208) rfl rfl rfl ?_
  refine w_iconst (q := 1209) rfl rfl ?_
  refine w_iadd (q := 1210) rfl rfl ?_
  obtain ⟨h1, h2, k⟩ := k
  refine w_sald (q := 1211) rfl rfl h1 h2 ?_
  refine w_callv (q := 1214) rfl rfl rfl rfl rfl rfl ?_
  exact k
theorem b0_250 {xs : Nat → Int32} {xl : Nat} {I J : w_I} {b : Bool} {Q : Option Value → w_I → w_I → Bool → Prop} {l3 s0 s1 : Int} (k : ((-2147483648 ≤ s0 ∧ s0 < 2147483648) ∧ (-2147483648 ≤ s1 ∧ s1 < 2147483648) ∧ ((s0 = s1 → w_T xs xl 0 18 [some (.ref 100000), some (.ref 0), some (.ref 104), some (w_i (l3 + 6))] [] [] I J b Q) ∧ (¬ s0 = s1 → Q (some (w_i 0)) I J b)))) : w_T xs xl 0 250 [some (.ref 100000), some (.ref 0), some (.ref 104), some (w_i l3)] [] [w_i s1, w_i s0] I J b Q := by
  obtain ⟨h1, h2, k⟩ := k
  refine w_ceq (t := 1219) (q := 253) rfl rfl rfl h1 h2 (fun c3 => ?_) (fun c3 => ?_)
  · replace k := k.1 c3
    refine w_iinc (q := 1222) (L' := [some (.ref 100000), some (.ref 0), some (.ref 104), some (w_i (l3 + 6))]) (M' := []) rfl rfl rfl rfl rfl rfl ?_
    refine w_goto (t := 18) rfl rfl ?_
    exact k
  · replace k := k.2 c3
    refine w_iconst (q := 254) rfl rfl ?_
    refine w_iret rfl rfl k
theorem b0_273 {xs : Nat → Int32} {xl : Nat} {I J : w_I} {b : Bool} {Q : Option Value → w_I → w_I → Bool → Prop} {l3 s0 s1 : Int} (k : ((-2147483648 ≤ s0 ∧ s0 < 2147483648) ∧ (-2147483648 ≤ s1 ∧ s1 < 2147483648) ∧ ((s0 = s1 → w_T xs xl 0 18 [some (.ref 100000), some (.ref 0), some (.ref 104), some (w_i (l3 + 6))] [] [] I J b Q) ∧ (¬ s0 = s1 → Q (some (w_i 0)) I J b)))) : w_T xs xl 0 273 [some (.ref 100000), some (.ref 0), some (.ref 104), some (w_i l3)] [] [w_i s1, w_i s0] I J b Q := by
  obtain ⟨h1, h2, k⟩ := k
  refine w_ceq (t := 1219) (q := 276) rfl rfl rfl h1 h2 (fun c3 => ?_) (fun c3 => ?_)
  · replace k := k.1 c3
    refine w_iinc (q := 1222) (L' := [some (.ref 100000), some (.ref 0), some (.ref 104), some (w_i (l3 + 6))]) (M' := []) rfl rfl rfl rfl rfl rfl ?_
    refine w_goto (t := 18) rfl rfl ?_
    exact k
  · replace k := k.2 c3
    refine w_iconst (q := 277) rfl rfl ?_
    refine w_iret rfl rfl k
theorem b0_286 {xs : Nat → Int32} {xl : Nat} {I J : w_I} {b : Bool} {Q : Option Value → w_I → w_I → Bool → Prop} {l3 s0 s1 : Int} (k : ((-2147483648 ≤ s0 ∧ s0 < 2147483648) ∧ (-2147483648 ≤ s1 ∧ s1 < 2147483648) ∧ ((s0 = s1 → w_T xs xl 0 18 [some (.ref 100000), some (.ref 0), some (.ref 104), some (w_i (l3 + 6))] [] [] I J b Q) ∧ (¬ s0 = s1 → Q (some (w_i 0)) I J b)))) : w_T xs xl 0 286 [some (.ref 100000), some (.ref 0), some (.ref 104), some (w_i l3)] [] [w_i s1, w_i s0] I J b Q := by
  obtain ⟨h1, h2, k⟩ := k
  refine w_ceq (t := 1219) (q := 289) rfl rfl rfl h1 h2 (fun c3 => ?_) (fun c3 => ?_)
  · replace k := k.1 c3
    refine w_iinc (q := 1222) (L' := [some (.ref 100000), some (.ref 0), some (.ref 104), some (w_i (l3 + 6))]) (M' := []) rfl rfl rfl rfl rfl rfl ?_
    refine w_goto (t := 18) rfl rfl ?_
    exact k
  · replace k := k.2 c3
    refine w_iconst (q := 290) rfl rfl ?_
    refine w_iret rfl rfl k
theorem b0_299 {xs : Nat → Int32} {xl : Nat} {I J : w_I} {b : Bool} {Q : Option Value → w_I → w_I → Bool → Prop} {l3 s0 s1 : Int} (k : ((-2147483648 ≤ s0 ∧ s0 < 2147483648) ∧ (-2147483648 ≤ s1 ∧ s1 < 2147483648) ∧ ((s0 = s1 → w_T xs xl 0 18 [some (.ref 100000), some (.ref 0), some (.ref 104), some (w_i (l3 + 6))] [] [] I J b Q) ∧ (¬ s0 = s1 → Q (some (w_i 0)) I J b)))) : w_T xs xl 0 299 [some (.ref 100000), some (.ref 0), some (.ref 104), some (w_i l3)] [] [w_i s1, w_i s0] I J b Q := by
  obtain ⟨h1, h2, k⟩ := k
  refine w_ceq (t := 1219) (q := 302) rfl rfl rfl h1 h2 (fun c3 => ?_) (fun c3 => ?_)
  · replace k := k.1 c3
    refine w_iinc (q := 1222) (L' := [some (.ref 100000), some (.ref 0), some (.ref 104), some (w_i (l3 + 6))]) (M' := []) rfl rfl rfl rfl rfl rfl ?_
    refine w_goto (t := 18) rfl rfl ?_
    exact k
  · replace k := k.2 c3
    refine w_iconst (q := 303) rfl rfl ?_
    refine w_iret rfl rfl k
theorem b0_332 {xs : Nat → Int32} {xl : Nat} {I J : w_I} {b : Bool} {Q : Option Value → w_I → w_I → Bool → Prop} {l3 s0 s1 : Int} (k : ((-2147483648 ≤ s0 ∧ s0 < 2147483648) ∧ (-2147483648 ≤ s1 ∧ s1 < 2147483648) ∧ ((s0 = s1 → w_T xs xl 0 18 [some (.ref 100000), some (.ref 0), some (.ref 104), some (w_i (l3 + 6))] [] [] I J b Q) ∧ (¬ s0 = s1 → Q (some (w_i 0)) I J b)))) : w_T xs xl 0 332 [some (.ref 100000), some (.ref 0), some (.ref 104), some (w_i l3)] [] [w_i s1, w_i s0] I J b Q := by
  obtain ⟨h1, h2, k⟩ := k
  refine w_ceq (t := 1219) (q := 335) rfl rfl rfl h1 h2 (fun c3 => ?_) (fun c3 => ?_)
  · replace k := k.1 c3
    refine w_iinc (q := 1222) (L' := [some (.ref 100000), some (.ref 0), some (.ref 104), some (w_i (l3 + 6))]) (M' := []) rfl rfl rfl rfl rfl rfl ?_
    refine w_goto (t := 18) rfl rfl ?_
    exact k
  · replace k := k.2 c3
    refine w_iconst (q := 336) rfl rfl ?_
    refine w_iret rfl rfl k
theorem b0_391 {xs : Nat → Int32} {xl : Nat} {I J : w_I} {b : Bool} {Q : Option Value → w_I → w_I → Bool → Prop} {l3 s0 s1 : Int} (k : ((-2147483648 ≤ s0 ∧ s0 < 2147483648) ∧ (-2147483648 ≤ s1 ∧ s1 < 2147483648) ∧ ((s0 = s1 → w_T xs xl 0 18 [some (.ref 100000), some (.ref 0), some (.ref 104), some (w_i (l3 + 6))] [] [] I J b Q) ∧ (¬ s0 = s1 → Q (some (w_i 0)) I J b)))) : w_T xs xl 0 391 [some (.ref 100000), some (.ref 0), some (.ref 104), some (w_i l3)] [] [w_i s1, w_i s0] I J b Q := by
  obtain ⟨h1, h2, k⟩ := k
  refine w_ceq (t := 1219) (q := 394) rfl rfl rfl h1 h2 (fun c3 => ?_) (fun c3 => ?_)
  · replace k := k.1 c3
    refine w_iinc (q := 1222) (L' := [some (.ref 100000), some (.ref 0), some (.ref 104), some (w_i (l3 + 6))]) (M' := []) rfl rfl rfl rfl rfl rfl ?_
    refine w_goto (t := 18) rfl rfl ?_
    exact k
  · replace k := k.2 c3
    refine w_iconst (q := 395) rfl rfl ?_
    refine w_iret rfl rfl k
theorem b0_424 {xs : Nat → Int32} {xl : Nat} {I J : w_I} {b : Bool} {Q : Option Value → w_I → w_I → Bool → Prop} {l3 s0 s1 : Int} (k : ((-2147483648 ≤ s0 ∧ s0 < 2147483648) ∧ (-2147483648 ≤ s1 ∧ s1 < 2147483648) ∧ ((s0 = s1 → w_T xs xl 0 18 [some (.ref 100000), some (.ref 0), some (.ref 104), some (w_i (l3 + 6))] [] [] I J b Q) ∧ (¬ s0 = s1 → Q (some (w_i 0)) I J b)))) : w_T xs xl 0 424 [some (.ref 100000), some (.ref 0), some (.ref 104), some (w_i l3)] [] [w_i s1, w_i s0] I J b Q := by
  obtain ⟨h1, h2, k⟩ := k
  refine w_ceq (t := 1219) (q := 427) rfl rfl rfl h1 h2 (fun c3 => ?_) (fun c3 => ?_)
  · replace k := k.1 c3
    refine w_iinc (q := 1222) (L' := [some (.ref 100000), some (.ref 0), some (.ref 104), some (w_i (l3 + 6))]) (M' := []) rfl rfl rfl rfl rfl rfl ?_
    refine w_goto (t := 18) rfl rfl ?_
    exact k
  · replace k := k.2 c3
    refine w_iconst (q := 428) rfl rfl ?_
    refine w_iret rfl rfl k
theorem b0_447 {xs : Nat → Int32} {xl : Nat} {I J : w_I} {b : Bool} {Q : Option Value → w_I → w_I → Bool → Prop} {l3 s0 s1 : Int} (k : ((-2147483648 ≤ s0 ∧ s0 < 2147483648) ∧ (-2147483648 ≤ s1 ∧ s1 < 2147483648) ∧ ((s0 = s1 → w_T xs xl 0 18 [some (.ref 100000), some (.ref 0), some (.ref 104), some (w_i (l3 + 6))] [] [] I J b Q) ∧ (¬ s0 = s1 → Q (some (w_i 0)) I J b)))) : w_T xs xl 0 447 [some (.ref 100000), some (.ref 0), some (.ref 104), some (w_i l3)] [] [w_i s1, w_i s0] I J b Q := by
  obtain ⟨h1, h2, k⟩ := k
  refine w_ceq (t := 1219) (q := 450) rfl rfl rfl h1 h2 (fun c3 => ?_) (fun c3 => ?_)
  · replace k := k.1 c3
    refine w_iinc (q := 1222) (L' := [some (.ref 100000), some (.ref 0), some (.ref 104), some (w_i (l3 + 6))]) (M' := []) rfl rfl rfl rfl rfl rfl ?_
    refine w_goto (t := 18) rfl rfl ?_
    exact k
  · replace k := k.2 c3
    refine w_iconst (q := 451) rfl rfl ?_
    refine w_iret rfl rfl k
theorem b0_480 {xs : Nat → Int32} {xl : Nat} {I J : w_I} {b : Bool} {Q : Option Value → w_I → w_I → Bool → Prop} {l3 s0 s1 : Int} (k : ((-2147483648 ≤ s0 ∧ s0 < 2147483648) ∧ (-2147483648 ≤ s1 ∧ s1 < 2147483648) ∧ ((s0 = s1 → w_T xs xl 0 18 [some (.ref 100000), some (.ref 0), some (.ref 104), some (w_i (l3 + 6))] [] [] I J b Q) ∧ (¬ s0 = s1 → Q (some (w_i 0)) I J b)))) : w_T xs xl 0 480 [some (.ref 100000), some (.ref 0), some (.ref 104), some (w_i l3)] [] [w_i s1, w_i s0] I J b Q := by
  obtain ⟨h1, h2, k⟩ := k
  refine w_ceq (t := 1219) (q := 483) rfl rfl rfl h1 h2 (fun c3 => ?_) (fun c3 => ?_)
  · replace k := k.1 c3
    refine w_iinc (q := 1222) (L' := [some (.ref 100000), some (.ref 0), some (.ref 104), some (w_i (l3 + 6))]) (M' := []) rfl rfl rfl rfl rfl rfl ?_
    refine w_goto (t := 18) rfl rfl ?_
    exact k
  · replace k := k.2 c3
    refine w_iconst (q := 484) rfl rfl ?_
    refine w_iret rfl rfl k
theorem b0_513 {xs : Nat → Int32} {xl : Nat} {I J : w_I} {b : Bool} {Q : Option Value → w_I → w_I → Bool → Prop} {l3 s0 s1 : Int} (k : ((-2147483648 ≤ s0 ∧ s0 < 2147483648) ∧ (-2147483648 ≤ s1 ∧ s1 < 2147483648) ∧ ((s0 = s1 → w_T xs xl 0 18 [some (.ref 100000), some (.ref 0), some (.ref 104), some (w_i (l3 + 6))] [] [] I J b Q) ∧ (¬ s0 = s1 → Q (some (w_i 0)) I J b)))) : w_T xs xl 0 513 [some (.ref 100000), some (.ref 0), some (.ref 104), some (w_i l3)] [] [w_i s1, w_i s0] I J b Q := by
  obtain ⟨h1, h2, k⟩ := k
  refine w_ceq (t := 1219) (q := 516) rfl rfl rfl h1 h2 (fun c3 => ?_) (fun c3 => ?_)
  · replace k := k.1 c3
    refine w_iinc (q := 1222) (L' := [some (.ref 100000), some (.ref 0), some (.ref 104), some (w_i (l3 + 6))]) (M' := []) rfl rfl rfl rfl rfl rfl ?_
    refine w_goto (t := 18) rfl rfl ?_
    exact k
  · replace k := k.2 c3
    refine w_iconst (q := 517) rfl rfl ?_
    refine w_iret rfl rfl k
theorem b0_546 {xs : Nat → Int32} {xl : Nat} {I J : w_I} {b : Bool} {Q : Option Value → w_I → w_I → Bool → Prop} {l3 s0 s1 : Int} (k : ((-2147483648 ≤ s0 ∧ s0 < 2147483648) ∧ (-2147483648 ≤ s1 ∧ s1 < 2147483648) ∧ ((s0 = s1 → w_T xs xl 0 18 [some (.ref 100000), some (.ref 0), some (.ref 104), some (w_i (l3 + 6))] [] [] I J b Q) ∧ (¬ s0 = s1 → Q (some (w_i 0)) I J b)))) : w_T xs xl 0 546 [some (.ref 100000), some (.ref 0), some (.ref 104), some (w_i l3)] [] [w_i s1, w_i s0] I J b Q := by
  obtain ⟨h1, h2, k⟩ := k
  refine w_ceq (t := 1219) (q := 549) rfl rfl rfl h1 h2 (fun c3 => ?_) (fun c3 => ?_)
  · replace k := k.1 c3
    refine w_iinc (q := 1222) (L' := [some (.ref 100000), some (.ref 0), some (.ref 104), some (w_i (l3 + 6))]) (M' := []) rfl rfl rfl rfl rfl rfl ?_
    refine w_goto (t := 18) rfl rfl ?_
    exact k
  · replace k := k.2 c3
    refine w_iconst (q := 550) rfl rfl ?_
    refine w_iret rfl rfl k
theorem b0_579 {xs : Nat → Int32} {xl : Nat} {I J : w_I} {b : Bool} {Q : Option Value → w_I → w_I → Bool → Prop} {l3 s0 s1 : Int} (k : ((-2147483648 ≤ s0 ∧ s0 < 2147483648) ∧ (-2147483648 ≤ s1 ∧ s1 < 2147483648) ∧ ((s0 = s1 → w_T xs xl 0 18 [some (.ref 100000), some (.ref 0), some (.ref 104), some (w_i (l3 + 6))] [] [] I J b Q) ∧ (¬ s0 = s1 → Q (some (w_i 0)) I J b)))) : w_T xs xl 0 579 [some (.ref 100000), some (.ref 0), some (.ref 104), some (w_i l3)] [] [w_i s1, w_i s0] I J b Q := by
  obtain ⟨h1, h2, k⟩ := k
  refine w_ceq (t := 1219) (q := 582) rfl rfl rfl h1 h2 (fun c3 => ?_) (fun c3 => ?_)
  · replace k := k.1 c3
    refine w_iinc (q := 1222) (L' := [some (.ref 100000), some (.ref 0), some (.ref 104), some (w_i (l3 + 6))]) (M' := []) rfl rfl rfl rfl rfl rfl ?_
    refine w_goto (t := 18) rfl rfl ?_
    exact k
  · replace k := k.2 c3
    refine w_iconst (q := 583) rfl rfl ?_
    refine w_iret rfl rfl k
theorem b0_602 {xs : Nat → Int32} {xl : Nat} {I J : w_I} {b : Bool} {Q : Option Value → w_I → w_I → Bool → Prop} {l3 s0 s1 : Int} (k : ((-2147483648 ≤ s0 ∧ s0 < 2147483648) ∧ (-2147483648 ≤ s1 ∧ s1 < 2147483648) ∧ ((s0 = s1 → w_T xs xl 0 18 [some (.ref 100000), some (.ref 0), some (.ref 104), some (w_i (l3 + 6))] [] [] I J b Q) ∧ (¬ s0 = s1 → Q (some (w_i 0)) I J b)))) : w_T xs xl 0 602 [some (.ref 100000), some (.ref 0), some (.ref 104), some (w_i l3)] [] [w_i s1, w_i s0] I J b Q := by
  obtain ⟨h1, h2, k⟩ := k
  refine w_ceq (t := 1219) (q := 605) rfl rfl rfl h1 h2 (fun c3 => ?_) (fun c3 => ?_)
  · replace k := k.1 c3
    refine w_iinc (q := 1222) (L' := [some (.ref 100000), some (.ref 0), some (.ref 104), some (w_i (l3 + 6))]) (M' := []) rfl rfl rfl rfl rfl rfl ?_
    refine w_goto (t := 18) rfl rfl ?_
    exact k
  · replace k := k.2 c3
    refine w_iconst (q := 606) rfl rfl ?_
    refine w_iret rfl rfl k
theorem b0_625 {xs : Nat → Int32} {xl : Nat} {I J : w_I} {b : Bool} {Q : Option Value → w_I → w_I → Bool → Prop} {l3 s0 s1 : Int} (k : ((-2147483648 ≤ s0 ∧ s0 < 2147483648) ∧ (-2147483648 ≤ s1 ∧ s1 < 2147483648) ∧ ((s0 = s1 → w_T xs xl 0 18 [some (.ref 100000), some (.ref 0), some (.ref 104), some (w_i (l3 + 6))] [] [] I J b Q) ∧ (¬ s0 = s1 → Q (some (w_i 0)) I J b)))) : w_T xs xl 0 625 [some (.ref 100000), some (.ref 0), some (.ref 104), some (w_i l3)] [] [w_i s1, w_i s0] I J b Q := by
  obtain ⟨h1, h2, k⟩ := k
  refine w_ceq (t := 1219) (q := 628) rfl rfl rfl h1 h2 (fun c3 => ?_) (fun c3 => ?_)
  · replace k := k.1 c3
    refine w_iinc (q := 1222) (L' := [some (.ref 100000), some (.ref 0), some (.ref 104), some (w_i (l3 + 6))]) (M' := []) rfl rfl rfl rfl rfl rfl ?_
    refine w_goto (t := 18) rfl rfl ?_
    exact k
  · replace k := k.2 c3
    refine w_iconst (q := 629) rfl rfl ?_
    refine w_iret rfl rfl k
theorem b0_648 {xs : Nat → Int32} {xl : Nat} {I J : w_I} {b : Bool} {Q : Option Value → w_I → w_I → Bool → Prop} {l3 s0 s1 : Int} (k : ((-2147483648 ≤ s0 ∧ s0 < 2147483648) ∧ (-2147483648 ≤ s1 ∧ s1 < 2147483648) ∧ ((s0 = s1 → w_T xs xl 0 18 [some (.ref 100000), some (.ref 0), some (.ref 104), some (w_i (l3 + 6))] [] [] I J b Q) ∧ (¬ s0 = s1 → Q (some (w_i 0)) I J b)))) : w_T xs xl 0 648 [some (.ref 100000), some (.ref 0), some (.ref 104), some (w_i l3)] [] [w_i s1, w_i s0] I J b Q := by
  obtain ⟨h1, h2, k⟩ := k
  refine w_ceq (t := 1219) (q := 651) rfl rfl rfl h1 h2 (fun c3 => ?_) (fun c3 => ?_)
  · replace k := k.1 c3
    refine w_iinc (q := 1222) (L' := [some (.ref 100000), some (.ref 0), some (.ref 104), some (w_i (l3 + 6))]) (M' := []) rfl rfl rfl rfl rfl rfl ?_
    refine w_goto (t := 18) rfl rfl ?_
    exact k
  · replace k := k.2 c3
    refine w_iconst (q := 652) rfl rfl ?_
    refine w_iret rfl rfl k
theorem b0_671 {xs : Nat → Int32} {xl : Nat} {I J : w_I} {b : Bool} {Q : Option Value → w_I → w_I → Bool → Prop} {l3 s0 s1 : Int} (k : ((-2147483648 ≤ s0 ∧ s0 < 2147483648) ∧ (-2147483648 ≤ s1 ∧ s1 < 2147483648) ∧ ((s0 = s1 → w_T xs xl 0 18 [some (.ref 100000), some (.ref 0), some (.ref 104), some (w_i (l3 + 6))] [] [] I J b Q) ∧ (¬ s0 = s1 → Q (some (w_i 0)) I J b)))) : w_T xs xl 0 671 [some (.ref 100000), some (.ref 0), some (.ref 104), some (w_i l3)] [] [w_i s1, w_i s0] I J b Q := by
  obtain ⟨h1, h2, k⟩ := k
  refine w_ceq (t := 1219) (q := 674) rfl rfl rfl h1 h2 (fun c3 => ?_) (fun c3 => ?_)
  · replace k := k.1 c3
    refine w_iinc (q := 1222) (L' := [some (.ref 100000), some (.ref 0), some (.ref 104), some (w_i (l3 + 6))]) (M' := []) rfl rfl rfl rfl rfl rfl ?_
    refine w_goto (t := 18) rfl rfl ?_
    exact k
  · replace k := k.2 c3
    refine w_iconst (q := 675) rfl rfl ?_
    refine w_iret rfl rfl k
theorem b0_704 {xs : Nat → Int32} {xl : Nat} {I J : w_I} {b : Bool} {Q : Option Value → w_I → w_I → Bool → Prop} {l3 s0 s1 : Int} (k : ((-2147483648 ≤ s0 ∧ s0 < 2147483648) ∧ (-2147483648 ≤ s1 ∧ s1 < 2147483648) ∧ ((s0 = s1 → w_T xs xl 0 18 [some (.ref 100000), some (.ref 0), some (.ref 104), some (w_i (l3 + 6))] [] [] I J b Q) ∧ (¬ s0 = s1 → Q (some (w_i 0)) I J b)))) : w_T xs xl 0 704 [some (.ref 100000), some (.ref 0), some (.ref 104), some (w_i l3)] [] [w_i s1, w_i s0] I J b Q := by
  obtain ⟨h1, h2, k⟩ := k
  refine w_ceq (t := 1219) (q := 707) rfl rfl rfl h1 h2 (fun c3 => ?_) (fun c3 => ?_)
  · replace k := k.1 c3
    refine w_iinc (q := 1222) (L' := [some (.ref 100000), some (.ref 0), some (.ref 104), some (w_i (l3 + 6))]) (M' := []) rfl rfl rfl rfl rfl rfl ?_
    refine w_goto (t := 18) rfl rfl ?_
    exact k
  · replace k := k.2 c3
    refine w_iconst (q := 708) rfl rfl ?_
    refine w_iret rfl rfl k
theorem b0_737 {xs : Nat → Int32} {xl : Nat} {I J : w_I} {b : Bool} {Q : Option Value → w_I → w_I → Bool → Prop} {l3 s0 s1 : Int} (k : ((-2147483648 ≤ s0 ∧ s0 < 2147483648) ∧ (-2147483648 ≤ s1 ∧ s1 < 2147483648) ∧ ((s0 = s1 → w_T xs xl 0 18 [some (.ref 100000), some (.ref 0), some (.ref 104), some (w_i (l3 + 6))] [] [] I J b Q) ∧ (¬ s0 = s1 → Q (some (w_i 0)) I J b)))) : w_T xs xl 0 737 [some (.ref 100000), some (.ref 0), some (.ref 104), some (w_i l3)] [] [w_i s1, w_i s0] I J b Q := by
  obtain ⟨h1, h2, k⟩ := k
  refine w_ceq (t := 1219) (q := 740) rfl rfl rfl h1 h2 (fun c3 => ?_) (fun c3 => ?_)
  · replace k := k.1 c3
    refine w_iinc (q := 1222) (L' := [some (.ref 100000), some (.ref 0), some (.ref 104), some (w_i (l3 + 6))]) (M' := []) rfl rfl rfl rfl rfl rfl ?_
    refine w_goto (t := 18) rfl rfl ?_
    exact k
  · replace k := k.2 c3
    refine w_iconst (q := 741) rfl rfl ?_
    refine w_iret rfl rfl k
theorem b0_760 {xs : Nat → Int32} {xl : Nat} {I J : w_I} {b : Bool} {Q : Option Value → w_I → w_I → Bool → Prop} {l3 s0 s1 : Int} (k : ((-2147483648 ≤ s0 ∧ s0 < 2147483648) ∧ (-2147483648 ≤ s1 ∧ s1 < 2147483648) ∧ ((s0 = s1 → w_T xs xl 0 18 [some (.ref 100000), some (.ref 0), some (.ref 104), some (w_i (l3 + 6))] [] [] I J b Q) ∧ (¬ s0 = s1 → Q (some (w_i 0)) I J b)))) : w_T xs xl 0 760 [some (.ref 100000), some (.ref 0), some (.ref 104), some (w_i l3)] [] [w_i s1, w_i s0] I J b Q := by
  obtain ⟨h1, h2, k⟩ := k
  refine w_ceq (t := 1219) (q := 763) rfl rfl rfl h1 h2 (fun c3 => ?_) (fun c3 => ?_)
  · replace k := k.1 c3
    refine w_iinc (q := 1222) (L' := [some (.ref 100000), some (.ref 0), some (.ref 104), some (w_i (l3 + 6))]) (M' := []) rfl rfl rfl rfl rfl rfl ?_
    refine w_goto (t := 18) rfl rfl ?_
    exact k
  · replace k := k.2 c3
    refine w_iconst (q := 764) rfl rfl ?_
    refine w_iret rfl rfl k
theorem b0_783 {xs : Nat → Int32} {xl : Nat} {I J : w_I} {b : Bool} {Q : Option Value → w_I → w_I → Bool → Prop} {l3 s0 s1 : Int} (k : ((-2147483648 ≤ s0 ∧ s0 < 2147483648) ∧ (-2147483648 ≤ s1 ∧ s1 < 2147483648) ∧ ((s0 = s1 → w_T xs xl 0 18 [some (.ref 100000), some (.ref 0), some (.ref 104), some (w_i (l3 + 6))] [] [] I J b Q) ∧ (¬ s0 = s1 → Q (some (w_i 0)) I J b)))) : w_T xs xl 0 783 [some (.ref 100000), some (.ref 0), some (.ref 104), some (w_i l3)] [] [w_i s1, w_i s0] I J b Q := by
  obtain ⟨h1, h2, k⟩ := k
  refine w_ceq (t := 1219) (q := 786) rfl rfl rfl h1 h2 (fun c3 => ?_) (fun c3 => ?_)
  · replace k := k.1 c3
    refine w_iinc (q := 1222) (L' := [some (.ref 100000), some (.ref 0), some (.ref 104), some (w_i (l3 + 6))]) (M' := []) rfl rfl rfl rfl rfl rfl ?_
    refine w_goto (t := 18) rfl rfl ?_
    exact k
  · replace k := k.2 c3
    refine w_iconst (q := 787) rfl rfl ?_
    refine w_iret rfl rfl k
theorem b0_796 {xs : Nat → Int32} {xl : Nat} {I J : w_I} {b : Bool} {Q : Option Value → w_I → w_I → Bool → Prop} {l3 s0 s1 : Int} (k : ((-2147483648 ≤ s0 ∧ s0 < 2147483648) ∧ (-2147483648 ≤ s1 ∧ s1 < 2147483648) ∧ ((s0 = s1 → w_T xs xl 0 18 [some (.ref 100000), some (.ref 0), some (.ref 104), some (w_i (l3 + 6))] [] [] I J b Q) ∧ (¬ s0 = s1 → Q (some (w_i 0)) I J b)))) : w_T xs xl 0 796 [some (.ref 100000), some (.ref 0), some (.ref 104), some (w_i l3)] [] [w_i s1, w_i s0] I J b Q := by
  obtain ⟨h1, h2, k⟩ := k
  refine w_ceq (t := 1219) (q := 799) rfl rfl rfl h1 h2 (fun c3 => ?_) (fun c3 => ?_)
  · replace k := k.1 c3
    refine w_iinc (q := 1222) (L' := [some (.ref 100000), some (.ref 0), some (.ref 104), some (w_i (l3 + 6))]) (M' := []) rfl rfl rfl rfl rfl rfl ?_
    refine w_goto (t := 18) rfl rfl ?_
    exact k
  · replace k := k.2 c3
    refine w_iconst (q := 800) rfl rfl ?_
    refine w_iret rfl rfl k
theorem b0_835 {xs : Nat → Int32} {xl : Nat} {I J : w_I} {b : Bool} {Q : Option Value → w_I → w_I → Bool → Prop} {l3 s0 s1 : Int} (k : ((-2147483648 ≤ s0 ∧ s0 < 2147483648) ∧ (-2147483648 ≤ s1 ∧ s1 < 2147483648) ∧ ((s0 = s1 → w_T xs xl 0 18 [some (.ref 100000), some (.ref 0), some (.ref 104), some (w_i (l3 + 6))] [] [] I J b Q) ∧ (¬ s0 = s1 → Q (some (w_i 0)) I J b)))) : w_T xs xl 0 835 [some (.ref 100000), some (.ref 0), some (.ref 104), some (w_i l3)] [] [w_i s1, w_i s0] I J b Q := by
  obtain ⟨h1, h2, k⟩ := k
  refine w_ceq (t := 1219) (q := 838) rfl rfl rfl h1 h2 (fun c3 => ?_) (fun c3 => ?_)
  · replace k := k.1 c3
    refine w_iinc (q := 1222) (L' := [some (.ref 100000), some (.ref 0), some (.ref 104), some (w_i (l3 + 6))]) (M' := []) rfl rfl rfl rfl rfl rfl ?_
    refine w_goto (t := 18) rfl rfl ?_
    exact k
  · replace k := k.2 c3
    refine w_iconst (q := 839) rfl rfl ?_
    refine w_iret rfl rfl k
theorem b0_848 {xs : Nat → Int32} {xl : Nat} {I J : w_I} {b : Bool} {Q : Option Value → w_I → w_I → Bool → Prop} {l3 s0 s1 : Int} (k : ((-2147483648 ≤ s0 ∧ s0 < 2147483648) ∧ (-2147483648 ≤ s1 ∧ s1 < 2147483648) ∧ ((s0 = s1 → w_T xs xl 0 18 [some (.ref 100000), some (.ref 0), some (.ref 104), some (w_i (l3 + 6))] [] [] I J b Q) ∧ (¬ s0 = s1 → Q (some (w_i 0)) I J b)))) : w_T xs xl 0 848 [some (.ref 100000), some (.ref 0), some (.ref 104), some (w_i l3)] [] [w_i s1, w_i s0] I J b Q := by
  obtain ⟨h1, h2, k⟩ := k
  refine w_ceq (t := 1219) (q := 851) rfl rfl rfl h1 h2 (fun c3 => ?_) (fun c3 => ?_)
  · replace k := k.1 c3
    refine w_iinc (q := 1222) (L' := [some (.ref 100000), some (.ref 0), some (.ref 104), some (w_i (l3 + 6))]) (M' := []) rfl rfl rfl rfl rfl rfl ?_
    refine w_goto (t := 18) rfl rfl ?_
    exact k
  · replace k := k.2 c3
    refine w_iconst (q := 852) rfl rfl ?_
    refine w_iret rfl rfl k
theorem b0_871 {xs : Nat → Int32} {xl : Nat} {I J : w_I} {b : Bool} {Q : Option Value → w_I → w_I → Bool → Prop} {l3 s0 s1 : Int} (k : ((-2147483648 ≤ s0 ∧ s0 < 2147483648) ∧ (-2147483648 ≤ s1 ∧ s1 < 2147483648) ∧ ((s0 = s1 → w_T xs xl 0 18 [some (.ref 100000), some (.ref 0), some (.ref 104), some (w_i (l3 + 6))] [] [] I J b Q) ∧ (¬ s0 = s1 → Q (some (w_i 0)) I J b)))) : w_T xs xl 0 871 [some (.ref 100000), some (.ref 0), some (.ref 104), some (w_i l3)] [] [w_i s1, w_i s0] I J b Q := by
  obtain ⟨h1, h2, k⟩ := k
  refine w_ceq (t := 1219) (q := 874) rfl rfl rfl h1 h2 (fun c3 => ?_) (fun c3 => ?_)
  · replace k := k.1 c3
    refine w_iinc (q := 1222) (L' := [some (.ref 100000), some (.ref 0), some (.ref 104), some (w_i (l3 + 6))]) (M' := []) rfl rfl rfl rfl rfl rfl ?_
    refine w_goto (t := 18) rfl rfl ?_
    exact k
  · replace k := k.2 c3
    refine w_iconst (q := 875) rfl rfl ?_
    refine w_iret rfl rfl k
theorem b0_914 {xs : Nat → Int32} {xl : Nat} {I J : w_I} {b : Bool} {Q : Option Value → w_I → w_I → Bool → Prop} {l3 s0 s1 : Int} (k : ((-2147483648 ≤ s0 ∧ s0 < 2147483648) ∧ (-2147483648 ≤ s1 ∧ s1 < 2147483648) ∧ ((s0 = s1 → w_T xs xl 0 18 [some (.ref 100000), some (.ref 0), some (.ref 104), some (w_i (l3 + 6))] [] [] I J b Q) ∧ (¬ s0 = s1 → Q (some (w_i 0)) I J b)))) : w_T xs xl 0 914 [some (.ref 100000), some (.ref 0), some (.ref 104), some (w_i l3)] [] [w_i s1, w_i s0] I J b Q := by
  obtain ⟨h1, h2, k⟩ := k
  refine w_ceq (t := 1219) (q := 917) rfl rfl rfl h1 h2 (fun c3 => ?_) (fun c3 => ?_)
  · replace k := k.1 c3
    refine w_iinc (q := 1222) (L' := [some (.ref 100000), some (.ref 0), some (.ref 104), some (w_i (l3 + 6))]) (M' := []) rfl rfl rfl rfl rfl rfl ?_
    refine w_goto (t := 18) rfl rfl ?_
    exact k
  · replace k := k.2 c3
    refine w_iconst (q := 918) rfl rfl ?_
    refine w_iret rfl rfl k
theorem b0_927 {xs : Nat → Int32} {xl : Nat} {I J : w_I} {b : Bool} {Q : Option Value → w_I → w_I → Bool → Prop} {l3 s0 s1 : Int} (k : ((-2147483648 ≤ s0 ∧ s0 < 2147483648) ∧ (-2147483648 ≤ s1 ∧ s1 < 2147483648) ∧ ((s0 = s1 → w_T xs xl 0 18 [some (.ref 100000), some (.ref 0), some (.ref 104), some (w_i (l3 + 6))] [] [] I J b Q) ∧ (¬ s0 = s1 → Q (some (w_i 0)) I J b)))) : w_T xs xl 0 927 [some (.ref 100000), some (.ref 0), some (.ref 104), some (w_i l3)] [] [w_i s1, w_i s0] I J b Q := by
  obtain ⟨h1, h2, k⟩ := k
  refine w_ceq (t := 1219) (q := 930) rfl rfl rfl h1 h2 (fun c3 => ?_) (fun c3 => ?_)
  · replace k := k.1 c3
    refine w_iinc (q := 1222) (L' := [some (.ref 100000), some (.ref 0), some (.ref 104), some (w_i (l3 + 6))]) (M' := []) rfl rfl rfl rfl rfl rfl ?_
    refine w_goto (t := 18) rfl rfl ?_
    exact k
  · replace k := k.2 c3
    refine w_iconst (q := 931) rfl rfl ?_
    refine w_iret rfl rfl k
theorem b0_940 {xs : Nat → Int32} {xl : Nat} {I J : w_I} {b : Bool} {Q : Option Value → w_I → w_I → Bool → Prop} {l3 s0 s1 : Int} (k : ((-2147483648 ≤ s0 ∧ s0 < 2147483648) ∧ (-2147483648 ≤ s1 ∧ s1 < 2147483648) ∧ ((s0 = s1 → w_T xs xl 0 18 [some (.ref 100000), some (.ref 0), some (.ref 104), some (w_i (l3 + 6))] [] [] I J b Q) ∧ (¬ s0 = s1 → Q (some (w_i 0)) I J b)))) : w_T xs xl 0 940 [some (.ref 100000), some (.ref 0), some (.ref 104), some (w_i l3)] [] [w_i s1, w_i s0] I J b Q := by
  obtain ⟨h1, h2, k⟩ := k
  refine w_ceq (t := 1219) (q := 943) rfl rfl rfl h1 h2 (fun c3 => ?_) (fun c3 => ?_)
  · replace k := k.1 c3
    refine w_iinc (q := 1222) (L' := [some (.ref 100000), some (.ref 0), some (.ref 104), some (w_i (l3 + 6))]) (M' := []) rfl rfl rfl rfl rfl rfl ?_
    refine w_goto (t := 18) rfl rfl ?_
    exact k
  · replace k := k.2 c3
    refine w_iconst (q := 944) rfl rfl ?_
    refine w_iret rfl rfl k
theorem b0_953 {xs : Nat → Int32} {xl : Nat} {I J : w_I} {b : Bool} {Q : Option Value → w_I → w_I → Bool → Prop} {l3 s0 s1 : Int} (k : ((-2147483648 ≤ s0 ∧ s0 < 2147483648) ∧ (-2147483648 ≤ s1 ∧ s1 < 2147483648) ∧ ((s0 = s1 → w_T xs xl 0 18 [some (.ref 100000), some (.ref 0), some (.ref 104), some (w_i (l3 + 6))] [] [] I J b Q) ∧ (¬ s0 = s1 → Q (some (w_i 0)) I J b)))) : w_T xs xl 0 953 [some (.ref 100000), some (.ref 0), some (.ref 104), some (w_i l3)] [] [w_i s1, w_i s0] I J b Q := by
  obtain ⟨h1, h2, k⟩ := k
  refine w_ceq (t := 1219) (q := 956) rfl rfl rfl h1 h2 (fun c3 => ?_) (fun c3 => ?_)
  · replace k := k.1 c3
    refine w_iinc (q := 1222) (L' := [some (.ref 100000), some (.ref 0), some (.ref 104), some (w_i (l3 + 6))]) (M' := []) rfl rfl rfl rfl rfl rfl ?_
    refine w_goto (t := 18) rfl rfl ?_
    exact k
  · replace k := k.2 c3
    refine w_iconst (q := 957) rfl rfl ?_
    refine w_iret rfl rfl k
theorem b0_986 {xs : Nat → Int32} {xl : Nat} {I J : w_I} {b : Bool} {Q : Option Value → w_I → w_I → Bool → Prop} {l3 s0 s1 : Int} (k : ((-2147483648 ≤ s0 ∧ s0 < 2147483648) ∧ (-2147483648 ≤ s1 ∧ s1 < 2147483648) ∧ ((s0 = s1 → w_T xs xl 0 18 [some (.ref 100000), some (.ref 0), some (.ref 104), some (w_i (l3 + 6))] [] [] I J b Q) ∧ (¬ s0 = s1 → Q (some (w_i 0)) I J b)))) : w_T xs xl 0 986 [some (.ref 100000), some (.ref 0), some (.ref 104), some (w_i l3)] [] [w_i s1, w_i s0] I J b Q := by
  obtain ⟨h1, h2, k⟩ := k
  refine w_ceq (t := 1219) (q := 989) rfl rfl rfl h1 h2 (fun c3 => ?_) (fun c3 => ?_)
  · replace k := k.1 c3
    refine w_iinc (q := 1222) (L' := [some (.ref 100000), some (.ref 0), some (.ref 104), some (w_i (l3 + 6))]) (M' := []) rfl rfl rfl rfl rfl rfl ?_
    refine w_goto (t := 18) rfl rfl ?_
    exact k
  · replace k := k.2 c3
    refine w_iconst (q := 990) rfl rfl ?_
    refine w_iret rfl rfl k
theorem b0_1009 {xs : Nat → Int32} {xl : Nat} {I J : w_I} {b : Bool} {Q : Option Value → w_I → w_I → Bool → Prop} {l3 s0 s1 : Int} (k : ((-2147483648 ≤ s0 ∧ s0 < 2147483648) ∧ (-2147483648 ≤ s1 ∧ s1 < 2147483648) ∧ ((s0 = s1 → w_T xs xl 0 18 [some (.ref 100000), some (.ref 0), some (.ref 104), some (w_i (l3 + 6))] [] [] I J b Q) ∧ (¬ s0 = s1 → Q (some (w_i 0)) I J b)))) : w_T xs xl 0 1009 [some (.ref 100000), some (.ref 0), some (.ref 104), some (w_i l3)] [] [w_i s1, w_i s0] I J b Q := by
  obtain ⟨h1, h2, k⟩ := k
  refine w_ceq (t := 1219) (q := 1012) rfl rfl rfl h1 h2 (fun c3 => ?_) (fun c3 => ?_)
  · replace k := k.1 c3
    refine w_iinc (q := 1222) (L' := [some (.ref 100000), some (.ref 0), some (.ref 104), some (w_i (l3 + 6))]) (M' := []) rfl rfl rfl rfl rfl rfl ?_
    refine w_goto (t := 18) rfl rfl ?_
    exact k
  · replace k := k.2 c3
    refine w_iconst (q := 1013) rfl rfl ?_
    refine w_iret rfl rfl k
theorem b0_1042 {xs : Nat → Int32} {xl : Nat} {I J : w_I} {b : Bool} {Q : Option Value → w_I → w_I → Bool → Prop} {l3 s0 s1 : Int} (k : ((-9223372036854775808 ≤ s0 ∧ s0 < 9223372036854775808) ∧ (-9223372036854775808 ≤ s1 ∧ s1 < 9223372036854775808) ∧ ((s0 = s1 → w_T xs xl 0 18 [some (.ref 100000), some (.ref 0), some (.ref 104), some (w_i (l3 + 6))] [] [] I J b Q) ∧ (¬ s0 = s1 → Q (some (w_i 0)) I J b)))) : w_T xs xl 0 1042 [some (.ref 100000), some (.ref 0), some (.ref 104), some (w_i l3)] [] [w_l s1, w_l s0] I J b Q := by
  obtain ⟨h1, h2, k⟩ := k
  refine w_lcmp (q := 1043) rfl rfl h1 h2 ?_
  refine w_zeq (t := 1219) (q := 1046) rfl rfl rfl (w_cmp_in _ _) (fun c1 => ?_) (fun c1 => ?_)
  · replace k := k.1 (w_cmp_eq c1)
    refine w_iinc (q := 1222) (L' := [some (.ref 100000), some (.ref 0), some (.ref 104), some (w_i (l3 + 6))]) (M' := []) rfl rfl rfl rfl rfl rfl ?_
    refine w_goto (t := 18) rfl rfl ?_
    exact k
  · replace k := k.2 (w_cmp_ne c1)
    refine w_iconst (q := 1047) rfl rfl ?_
    refine w_iret rfl rfl k
theorem b0_1102 {xs : Nat → Int32} {xl : Nat} {I J : w_I} {b : Bool} {Q : Option Value → w_I → w_I → Bool → Prop} {l3 s0 s1 : Int} (k : ((-2147483648 ≤ s0 ∧ s0 < 2147483648) ∧ (-2147483648 ≤ s1 ∧ s1 < 2147483648) ∧ ((s0 = s1 → w_T xs xl 0 18 [some (.ref 100000), some (.ref 0), some (.ref 104), some (w_i (l3 + 6))] [] [] I J b Q) ∧ (¬ s0 = s1 → Q (some (w_i 0)) I J b)))) : w_T xs xl 0 1102 [some (.ref 100000), some (.ref 0), some (.ref 104), some (w_i l3)] [] [w_i s1, w_i s0] I J b Q := by
  obtain ⟨h1, h2, k⟩ := k
  refine w_ceq (t := 1219) (q := 1105) rfl rfl rfl h1 h2 (fun c3 => ?_) (fun c3 => ?_)
  · replace k := k.1 c3
    refine w_iinc (q := 1222) (L' := [some (.ref 100000), some (.ref 0), some (.ref 104), some (w_i (l3 + 6))]) (M' := []) rfl rfl rfl rfl rfl rfl ?_
    refine w_goto (t := 18) rfl rfl ?_
    exact k
  · replace k := k.2 c3
    refine w_iconst (q := 1106) rfl rfl ?_
    refine w_iret rfl rfl k
theorem b0_1145 {xs : Nat → Int32} {xl : Nat} {I J : w_I} {b : Bool} {Q : Option Value → w_I → w_I → Bool → Prop} {l3 s0 s1 : Int} (k : ((-2147483648 ≤ s0 ∧ s0 < 2147483648) ∧ (-2147483648 ≤ s1 ∧ s1 < 2147483648) ∧ ((s0 = s1 → w_T xs xl 0 18 [some (.ref 100000), some (.ref 0), some (.ref 104), some (w_i (l3 + 6))] [] [] I J b Q) ∧ (¬ s0 = s1 → Q (some (w_i 0)) I J b)))) : w_T xs xl 0 1145 [some (.ref 100000), some (.ref 0), some (.ref 104), some (w_i l3)] [] [w_i s1, w_i s0] I J b Q := by
  obtain ⟨h1, h2, k⟩ := k
  refine w_ceq (t := 1219) (q := 1148) rfl rfl rfl h1 h2 (fun c3 => ?_) (fun c3 => ?_)
  · replace k := k.1 c3
    refine w_iinc (q := 1222) (L' := [some (.ref 100000), some (.ref 0), some (.ref 104), some (w_i (l3 + 6))]) (M' := []) rfl rfl rfl rfl rfl rfl ?_
    refine w_goto (t := 18) rfl rfl ?_
    exact k
  · replace k := k.2 c3
    refine w_iconst (q := 1149) rfl rfl ?_
    refine w_iret rfl rfl k
theorem b0_1168 {xs : Nat → Int32} {xl : Nat} {I J : w_I} {b : Bool} {Q : Option Value → w_I → w_I → Bool → Prop} {l3 s0 s1 : Int} (k : ((-2147483648 ≤ s0 ∧ s0 < 2147483648) ∧ (-2147483648 ≤ s1 ∧ s1 < 2147483648) ∧ ((s0 = s1 → w_T xs xl 0 18 [some (.ref 100000), some (.ref 0), some (.ref 104), some (w_i (l3 + 6))] [] [] I J b Q) ∧ (¬ s0 = s1 → Q (some (w_i 0)) I J b)))) : w_T xs xl 0 1168 [some (.ref 100000), some (.ref 0), some (.ref 104), some (w_i l3)] [] [w_i s1, w_i s0] I J b Q := by
  obtain ⟨h1, h2, k⟩ := k
  refine w_ceq (t := 1219) (q := 1171) rfl rfl rfl h1 h2 (fun c3 => ?_) (fun c3 => ?_)
  · replace k := k.1 c3
    refine w_iinc (q := 1222) (L' := [some (.ref 100000), some (.ref 0), some (.ref 104), some (w_i (l3 + 6))]) (M' := []) rfl rfl rfl rfl rfl rfl ?_
    refine w_goto (t := 18) rfl rfl ?_
    exact k
  · replace k := k.2 c3
    refine w_iconst (q := 1172) rfl rfl ?_
    refine w_iret rfl rfl k
theorem b0_1191 {xs : Nat → Int32} {xl : Nat} {I J : w_I} {b : Bool} {Q : Option Value → w_I → w_I → Bool → Prop} {l3 s0 s1 : Int} (k : ((-2147483648 ≤ s0 ∧ s0 < 2147483648) ∧ (-2147483648 ≤ s1 ∧ s1 < 2147483648) ∧ ((s0 = s1 → w_T xs xl 0 18 [some (.ref 100000), some (.ref 0), some (.ref 104), some (w_i (l3 + 6))] [] [] I J b Q) ∧ (¬ s0 = s1 → Q (some (w_i 0)) I J b)))) : w_T xs xl 0 1191 [some (.ref 100000), some (.ref 0), some (.ref 104), some (w_i l3)] [] [w_i s1, w_i s0] I J b Q := by
  obtain ⟨h1, h2, k⟩ := k
  refine w_ceq (t := 1219) (q := 1194) rfl rfl rfl h1 h2 (fun c3 => ?_) (fun c3 => ?_)
  · replace k := k.1 c3
    refine w_iinc (q := 1222) (L' := [some (.ref 100000), some (.ref 0), some (.ref 104), some (w_i (l3 + 6))]) (M' := []) rfl rfl rfl rfl rfl rfl ?_
    refine w_goto (t := 18) rfl rfl ?_
    exact k
  · replace k := k.2 c3
    refine w_iconst (q := 1195) rfl rfl ?_
    refine w_iret rfl rfl k
theorem b0_1214 {xs : Nat → Int32} {xl : Nat} {I J : w_I} {b : Bool} {Q : Option Value → w_I → w_I → Bool → Prop} {l3 s0 s1 : Int} (k : ((-2147483648 ≤ s0 ∧ s0 < 2147483648) ∧ (-2147483648 ≤ s1 ∧ s1 < 2147483648) ∧ ((s0 = s1 → w_T xs xl 0 18 [some (.ref 100000), some (.ref 0), some (.ref 104), some (w_i (l3 + 6))] [] [] I J b Q) ∧ (¬ s0 = s1 → Q (some (w_i 0)) I J b)))) : w_T xs xl 0 1214 [some (.ref 100000), some (.ref 0), some (.ref 104), some (w_i l3)] [] [w_i s1, w_i s0] I J b Q := by
  obtain ⟨h1, h2, k⟩ := k
  refine w_ceq (t := 1219) (q := 1217) rfl rfl rfl h1 h2 (fun c3 => ?_) (fun c3 => ?_)
  · replace k := k.1 c3
    refine w_iinc (q := 1222) (L' := [some (.ref 100000), some (.ref 0), some (.ref 104), some (w_i (l3 + 6))]) (M' := []) rfl rfl rfl rfl rfl rfl ?_
    refine w_goto (t := 18) rfl rfl ?_
    exact k
  · replace k := k.2 c3
    refine w_iconst (q := 1218) rfl rfl ?_
    refine w_iret rfl rfl k
end
