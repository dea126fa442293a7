section
/-! the law's loop -/
variable {xs : Nat → Int32} {xl : Nat} {I J : w_I} {b : Bool} {Q : Option Value → w_I → w_I → Bool → Prop}
theorem law_step {y1 y2 pc1 pc2 : Nat} {a1 a2 : List Value} {L : x_L} (h : Both xs xl y1 a1 y2 a2 I) (h1 : ∀ (v : Int) (I1 J1 : w_I) (b1 : Bool), w_in v → w_C xs xl y2 a2 I1 J1 b1 (fun o Ic Jc bc => w_T xs xl 0 pc2 L [] (w_pv o [w_i v]) Ic Jc bc Q) → w_T xs xl 0 pc1 L [] [w_i v] I1 J1 b1 Q) (h2 : ∀ (v : Int) (I1 J1 : w_I) (b1 : Bool), w_in v → RR I1 → w_T xs xl 0 pc2 L [] [w_i v, w_i v] I1 J1 b1 Q) : w_C xs xl y1 a1 I J b (fun o Ic Jc bc => w_T xs xl 0 pc1 L [] (w_pv o []) Ic Jc bc Q) := by
  refine h J b _ (fun v I1 J1 b1 hh => ?_)
  have e : w_i v = w_i (w_w v) := by
    show Value.int (Int32.ofInt v) = Value.int (Int32.ofInt (w_w v))
    rw [w_ww]
  rw [e] at hh ⊢
  exact h1 (w_w v) I1 J1 b1 (w_wi v) (hh _ (fun I' J' b' R' => h2 (w_w v) I' J' b' (w_wi v) R'))
theorem law_stepL {y1 y2 pc1 pc2 : Nat} {a1 a2 : List Value} {L : x_L} (h : BothL xs xl y1 a1 y2 a2 I) (h1 : ∀ (v : Int) (I1 J1 : w_I) (b1 : Bool), w_inl v → w_C xs xl y2 a2 I1 J1 b1 (fun o Ic Jc bc => w_T xs xl 0 pc2 L [] (w_pv o [w_l v]) Ic Jc bc Q) → w_T xs xl 0 pc1 L [] [w_l v] I1 J1 b1 Q) (h2 : ∀ (v : Int) (I1 J1 : w_I) (b1 : Bool), w_inl v → RR I1 → w_T xs xl 0 pc2 L [] [w_l v, w_l v] I1 J1 b1 Q) : w_C xs xl y1 a1 I J b (fun o Ic Jc bc => w_T xs xl 0 pc1 L [] (w_pv o []) Ic Jc bc Q) := by
  refine h J b _ (fun v I1 J1 b1 hh => ?_)
  have e : w_l v = w_l ((Int64.ofInt v).toInt) := by
    show Value.long (Int64.ofInt v) = Value.long (Int64.ofInt ((Int64.ofInt v).toInt))
    rw [Int64.ofInt_toInt]
  have hb : w_inl ((Int64.ofInt v).toInt) := by
    have h1 := Int64.le_toInt (Int64.ofInt v)
    have h2 := Int64.toInt_lt (Int64.ofInt v)
    exact ⟨h1, h2⟩
  rw [e] at hh ⊢
  exact h1 _ I1 J1 b1 hb (hh _ (fun I' J' b' R' => h2 _ I' J' b' hb R'))
set_option maxHeartbeats 16000000 in
theorem law_loop (hx : (xl : Int) ≤ 3072) : ∀ (m : Nat) (l3 : Int) (I J : w_I) (b : Bool), (xl : Int) < l3 + 6 * m + 6 → 0 ≤ l3 → l3 ≤ xl + 6 → RR I → w_T xs xl 0 18 [some (.ref 100000), some (.ref 0), some (.ref 104), some (w_i l3)] [] [] I J b (fun v _ _ _ => v = some (w_i 1)) := by
  intro m
  have wb : ∀ k : Int, w_in (w_s xs k) := fun k => w_bnd _
  induction m with
  | zero =>
    intro l3 I J b a0 a1 a2 R
    refine b0_18 ?_
    try simp only [w_Ug, reduceIte, Nat.reduceEqDiff, Int.reduceEq, eq_self, if_true]
    repeat' (first | apply And.intro | intro)
    all_goals (try first | omega | contradiction | exact Or.inl trivial | exact Or.inr trivial)
    all_goals exact trivial
  | succ m ih =>
    intro l3 I J b a0 a1 a2 R
    have nx : ∀ (I' J' : w_I) (b' : Bool), RR I' → ¬ (xl : Int) - 6 < l3 → w_T xs xl 0 18 [some (.ref 100000), some (.ref 0), some (.ref 104), some (w_i (l3 + 6))] [] [] I' J' b' (fun v _ _ _ => v = some (w_i 1)) := fun I' J' b' R' h => ih (l3 + 6) I' J' b' (by omega) (by omega) (by omega) R'
    have nx0 := nx I J b R
    have b18 := wb l3
    have w1 := wb (l3 + 1)
    have w2 := wb (l3 + 2)
    have w3 := wb (l3 + 3)
    have hand : w_in (w_and (w_s xs l3) 63) := w_bnd _
    by_cases hex : (xl : Int) - 6 < l3
    · refine b0_18 ?_
      try simp only [w_Ug, reduceIte, Nat.reduceEqDiff, Int.reduceEq, eq_self, if_true]
      repeat' (first | apply And.intro | intro)
      all_goals (try first | omega | contradiction | exact Or.inl trivial | exact Or.inr trivial)
      all_goals exact trivial
    have nx := fun I' J' b' R' => nx I' J' b' R' hex
    have nx0 := nx I J b R
    refine b0_18 ?_
    try simp only [w_Ug, reduceIte, Nat.reduceEqDiff, Int.reduceEq, eq_self, if_true]
    repeat' (first | apply And.intro | intro)
    all_goals (try first | omega | contradiction | exact Or.inl trivial | exact Or.inr trivial)
    · refine law_step (pc2 := 250) (k_feed R) (fun v I1 J1 b1 hv c => ?_) (fun v I1 J1 b1 hv R1 => ?_)
      · refine b0_221 ?_
        try simp only [w_Ug, reduceIte, Nat.reduceEqDiff, Int.reduceEq, eq_self, if_true]
        repeat' (first | apply And.intro | intro)
        all_goals (try first | omega | contradiction | exact Or.inl trivial | exact Or.inr trivial)
      · have n1 := nx I1 J1 b1 R1
        refine b0_250 ?_
        try simp only [w_Ug, reduceIte, Nat.reduceEqDiff, Int.reduceEq, eq_self, if_true]
        repeat' (first | apply And.intro | intro)
        all_goals (try first | omega | contradiction | exact Or.inl trivial | exact Or.inr trivial)
    · refine law_step (pc2 := 273) (k_back R (wb _)) (fun v I1 J1 b1 hv c => ?_) (fun v I1 J1 b1 hv R1 => ?_)
      · refine b0_264 ?_
        try simp only [w_Ug, reduceIte, Nat.reduceEqDiff, Int.reduceEq, eq_self, if_true]
        repeat' (first | apply And.intro | intro)
        all_goals (try first | omega | contradiction | exact Or.inl trivial | exact Or.inr trivial)
      · have n1 := nx I1 J1 b1 R1
        refine b0_273 ?_
        try simp only [w_Ug, reduceIte, Nat.reduceEqDiff, Int.reduceEq, eq_self, if_true]
        repeat' (first | apply And.intro | intro)
        all_goals (try first | omega | contradiction | exact Or.inl trivial | exact Or.inr trivial)
    · refine law_step (pc2 := 286) (k_read R) (fun v I1 J1 b1 hv c => ?_) (fun v I1 J1 b1 hv R1 => ?_)
      · refine b0_282 ?_
        try simp only [w_Ug, reduceIte, Nat.reduceEqDiff, Int.reduceEq, eq_self, if_true]
        repeat' (first | apply And.intro | intro)
        all_goals (try first | omega | contradiction | exact Or.inl trivial | exact Or.inr trivial)
      · have n1 := nx I1 J1 b1 R1
        refine b0_286 ?_
        try simp only [w_Ug, reduceIte, Nat.reduceEqDiff, Int.reduceEq, eq_self, if_true]
        repeat' (first | apply And.intro | intro)
        all_goals (try first | omega | contradiction | exact Or.inl trivial | exact Or.inr trivial)
    · refine law_step (pc2 := 299) (k_place R) (fun v I1 J1 b1 hv c => ?_) (fun v I1 J1 b1 hv R1 => ?_)
      · refine b0_295 ?_
        try simp only [w_Ug, reduceIte, Nat.reduceEqDiff, Int.reduceEq, eq_self, if_true]
        repeat' (first | apply And.intro | intro)
        all_goals (try first | omega | contradiction | exact Or.inl trivial | exact Or.inr trivial)
      · have n1 := nx I1 J1 b1 R1
        refine b0_299 ?_
        try simp only [w_Ug, reduceIte, Nat.reduceEqDiff, Int.reduceEq, eq_self, if_true]
        repeat' (first | apply And.intro | intro)
        all_goals (try first | omega | contradiction | exact Or.inl trivial | exact Or.inr trivial)
    · refine law_step (pc2 := 332) (k_house R (wb _) (wb _)) (fun v I1 J1 b1 hv c => ?_) (fun v I1 J1 b1 hv R1 => ?_)
      · refine b0_318 ?_
        try simp only [w_Ug, reduceIte, Nat.reduceEqDiff, Int.reduceEq, eq_self, if_true]
        repeat' (first | apply And.intro | intro)
        all_goals (try first | omega | contradiction | exact Or.inl trivial | exact Or.inr trivial)
      · have n1 := nx I1 J1 b1 R1
        refine b0_332 ?_
        try simp only [w_Ug, reduceIte, Nat.reduceEqDiff, Int.reduceEq, eq_self, if_true]
        repeat' (first | apply And.intro | intro)
        all_goals (try first | omega | contradiction | exact Or.inl trivial | exact Or.inr trivial)
    · refine law_step (pc2 := 391) (k_come R (wb _) (wb _) (Or.inl rfl)) (fun v I1 J1 b1 hv c => ?_) (fun v I1 J1 b1 hv R1 => ?_)
      · refine b0_364 ?_
        try simp only [w_Ug, reduceIte, Nat.reduceEqDiff, Int.reduceEq, eq_self, if_true]
        repeat' (first | apply And.intro | intro)
        all_goals (try first | omega | contradiction | exact Or.inl trivial | exact Or.inr trivial)
      · have n1 := nx I1 J1 b1 R1
        refine b0_391 ?_
        try simp only [w_Ug, reduceIte, Nat.reduceEqDiff, Int.reduceEq, eq_self, if_true]
        repeat' (first | apply And.intro | intro)
        all_goals (try first | omega | contradiction | exact Or.inl trivial | exact Or.inr trivial)
    · refine law_step (pc2 := 391) (k_come R (wb _) (wb _) (Or.inr rfl)) (fun v I1 J1 b1 hv c => ?_) (fun v I1 J1 b1 hv R1 => ?_)
      · refine b0_364 ?_
        try simp only [w_Ug, reduceIte, Nat.reduceEqDiff, Int.reduceEq, eq_self, if_true]
        repeat' (first | apply And.intro | intro)
        all_goals (try first | omega | contradiction | exact Or.inl trivial | exact Or.inr trivial)
      · have n1 := nx I1 J1 b1 R1
        refine b0_391 ?_
        try simp only [w_Ug, reduceIte, Nat.reduceEqDiff, Int.reduceEq, eq_self, if_true]
        repeat' (first | apply And.intro | intro)
        all_goals (try first | omega | contradiction | exact Or.inl trivial | exact Or.inr trivial)
    · refine law_step (pc2 := 424) (k_join R (wb _) (wb _)) (fun v I1 J1 b1 hv c => ?_) (fun v I1 J1 b1 hv R1 => ?_)
      · refine b0_410 ?_
        try simp only [w_Ug, reduceIte, Nat.reduceEqDiff, Int.reduceEq, eq_self, if_true]
        repeat' (first | apply And.intro | intro)
        all_goals (try first | omega | contradiction | exact Or.inl trivial | exact Or.inr trivial)
      · have n1 := nx I1 J1 b1 R1
        refine b0_424 ?_
        try simp only [w_Ug, reduceIte, Nat.reduceEqDiff, Int.reduceEq, eq_self, if_true]
        repeat' (first | apply And.intro | intro)
        all_goals (try first | omega | contradiction | exact Or.inl trivial | exact Or.inr trivial)
    · refine law_step (pc2 := 447) (k_die R (wb _)) (fun v I1 J1 b1 hv c => ?_) (fun v I1 J1 b1 hv R1 => ?_)
      · refine b0_438 ?_
        try simp only [w_Ug, reduceIte, Nat.reduceEqDiff, Int.reduceEq, eq_self, if_true]
        repeat' (first | apply And.intro | intro)
        all_goals (try first | omega | contradiction | exact Or.inl trivial | exact Or.inr trivial)
      · have n1 := nx I1 J1 b1 R1
        refine b0_447 ?_
        try simp only [w_Ug, reduceIte, Nat.reduceEqDiff, Int.reduceEq, eq_self, if_true]
        repeat' (first | apply And.intro | intro)
        all_goals (try first | omega | contradiction | exact Or.inl trivial | exact Or.inr trivial)
    · refine law_step (pc2 := 480) (k_person R (wb _) (wb _)) (fun v I1 J1 b1 hv c => ?_) (fun v I1 J1 b1 hv R1 => ?_)
      · refine b0_466 ?_
        try simp only [w_Ug, reduceIte, Nat.reduceEqDiff, Int.reduceEq, eq_self, if_true]
        repeat' (first | apply And.intro | intro)
        all_goals (try first | omega | contradiction | exact Or.inl trivial | exact Or.inr trivial)
      · have n1 := nx I1 J1 b1 R1
        refine b0_480 ?_
        try simp only [w_Ug, reduceIte, Nat.reduceEqDiff, Int.reduceEq, eq_self, if_true]
        repeat' (first | apply And.intro | intro)
        all_goals (try first | omega | contradiction | exact Or.inl trivial | exact Or.inr trivial)
    · refine law_step (pc2 := 513) (k_family R (wb _) (wb _)) (fun v I1 J1 b1 hv c => ?_) (fun v I1 J1 b1 hv R1 => ?_)
      · refine b0_499 ?_
        try simp only [w_Ug, reduceIte, Nat.reduceEqDiff, Int.reduceEq, eq_self, if_true]
        repeat' (first | apply And.intro | intro)
        all_goals (try first | omega | contradiction | exact Or.inl trivial | exact Or.inr trivial)
      · have n1 := nx I1 J1 b1 R1
        refine b0_513 ?_
        try simp only [w_Ug, reduceIte, Nat.reduceEqDiff, Int.reduceEq, eq_self, if_true]
        repeat' (first | apply And.intro | intro)
        all_goals (try first | omega | contradiction | exact Or.inl trivial | exact Or.inr trivial)
    · refine law_step (pc2 := 546) (k_live R (wb _) (wb _)) (fun v I1 J1 b1 hv c => ?_) (fun v I1 J1 b1 hv R1 => ?_)
      · refine b0_532 ?_
        try simp only [w_Ug, reduceIte, Nat.reduceEqDiff, Int.reduceEq, eq_self, if_true]
        repeat' (first | apply And.intro | intro)
        all_goals (try first | omega | contradiction | exact Or.inl trivial | exact Or.inr trivial)
      · have n1 := nx I1 J1 b1 R1
        refine b0_546 ?_
        try simp only [w_Ug, reduceIte, Nat.reduceEqDiff, Int.reduceEq, eq_self, if_true]
        repeat' (first | apply And.intro | intro)
        all_goals (try first | omega | contradiction | exact Or.inl trivial | exact Or.inr trivial)
    · refine law_step (pc2 := 579) (k_love R (wb _) (wb _)) (fun v I1 J1 b1 hv c => ?_) (fun v I1 J1 b1 hv R1 => ?_)
      · refine b0_565 ?_
        try simp only [w_Ug, reduceIte, Nat.reduceEqDiff, Int.reduceEq, eq_self, if_true]
        repeat' (first | apply And.intro | intro)
        all_goals (try first | omega | contradiction | exact Or.inl trivial | exact Or.inr trivial)
      · have n1 := nx I1 J1 b1 R1
        refine b0_579 ?_
        try simp only [w_Ug, reduceIte, Nat.reduceEqDiff, Int.reduceEq, eq_self, if_true]
        repeat' (first | apply And.intro | intro)
        all_goals (try first | omega | contradiction | exact Or.inl trivial | exact Or.inr trivial)
    · refine law_step (pc2 := 602) (k_months R (wb _)) (fun v I1 J1 b1 hv c => ?_) (fun v I1 J1 b1 hv R1 => ?_)
      · refine b0_593 ?_
        try simp only [w_Ug, reduceIte, Nat.reduceEqDiff, Int.reduceEq, eq_self, if_true]
        repeat' (first | apply And.intro | intro)
        all_goals (try first | omega | contradiction | exact Or.inl trivial | exact Or.inr trivial)
      · have n1 := nx I1 J1 b1 R1
        refine b0_602 ?_
        try simp only [w_Ug, reduceIte, Nat.reduceEqDiff, Int.reduceEq, eq_self, if_true]
        repeat' (first | apply And.intro | intro)
        all_goals (try first | omega | contradiction | exact Or.inl trivial | exact Or.inr trivial)
    · refine law_step (pc2 := 625) (k_unlawful R (wb _)) (fun v I1 J1 b1 hv c => ?_) (fun v I1 J1 b1 hv R1 => ?_)
      · refine b0_616 ?_
        try simp only [w_Ug, reduceIte, Nat.reduceEqDiff, Int.reduceEq, eq_self, if_true]
        repeat' (first | apply And.intro | intro)
        all_goals (try first | omega | contradiction | exact Or.inl trivial | exact Or.inr trivial)
      · have n1 := nx I1 J1 b1 R1
        refine b0_625 ?_
        try simp only [w_Ug, reduceIte, Nat.reduceEqDiff, Int.reduceEq, eq_self, if_true]
        repeat' (first | apply And.intro | intro)
        all_goals (try first | omega | contradiction | exact Or.inl trivial | exact Or.inr trivial)
    · refine law_step (pc2 := 648) (k_pair R (wb _)) (fun v I1 J1 b1 hv c => ?_) (fun v I1 J1 b1 hv R1 => ?_)
      · refine b0_639 ?_
        try simp only [w_Ug, reduceIte, Nat.reduceEqDiff, Int.reduceEq, eq_self, if_true]
        repeat' (first | apply And.intro | intro)
        all_goals (try first | omega | contradiction | exact Or.inl trivial | exact Or.inr trivial)
      · have n1 := nx I1 J1 b1 R1
        refine b0_648 ?_
        try simp only [w_Ug, reduceIte, Nat.reduceEqDiff, Int.reduceEq, eq_self, if_true]
        repeat' (first | apply And.intro | intro)
        all_goals (try first | omega | contradiction | exact Or.inl trivial | exact Or.inr trivial)
    · refine law_step (pc2 := 671) (k_row R (wb _)) (fun v I1 J1 b1 hv c => ?_) (fun v I1 J1 b1 hv R1 => ?_)
      · refine b0_662 ?_
        try simp only [w_Ug, reduceIte, Nat.reduceEqDiff, Int.reduceEq, eq_self, if_true]
        repeat' (first | apply And.intro | intro)
        all_goals (try first | omega | contradiction | exact Or.inl trivial | exact Or.inr trivial)
      · have n1 := nx I1 J1 b1 R1
        refine b0_671 ?_
        try simp only [w_Ug, reduceIte, Nat.reduceEqDiff, Int.reduceEq, eq_self, if_true]
        repeat' (first | apply And.intro | intro)
        all_goals (try first | omega | contradiction | exact Or.inl trivial | exact Or.inr trivial)
    · refine law_step (pc2 := 704) (k_least R (wb _) (wb _)) (fun v I1 J1 b1 hv c => ?_) (fun v I1 J1 b1 hv R1 => ?_)
      · refine b0_690 ?_
        try simp only [w_Ug, reduceIte, Nat.reduceEqDiff, Int.reduceEq, eq_self, if_true]
        repeat' (first | apply And.intro | intro)
        all_goals (try first | omega | contradiction | exact Or.inl trivial | exact Or.inr trivial)
      · have n1 := nx I1 J1 b1 R1
        refine b0_704 ?_
        try simp only [w_Ug, reduceIte, Nat.reduceEqDiff, Int.reduceEq, eq_self, if_true]
        repeat' (first | apply And.intro | intro)
        all_goals (try first | omega | contradiction | exact Or.inl trivial | exact Or.inr trivial)
    · refine law_step (pc2 := 737) (k_leastAt R (wb _) (wb _)) (fun v I1 J1 b1 hv c => ?_) (fun v I1 J1 b1 hv R1 => ?_)
      · refine b0_723 ?_
        try simp only [w_Ug, reduceIte, Nat.reduceEqDiff, Int.reduceEq, eq_self, if_true]
        repeat' (first | apply And.intro | intro)
        all_goals (try first | omega | contradiction | exact Or.inl trivial | exact Or.inr trivial)
      · have n1 := nx I1 J1 b1 R1
        refine b0_737 ?_
        try simp only [w_Ug, reduceIte, Nat.reduceEqDiff, Int.reduceEq, eq_self, if_true]
        repeat' (first | apply And.intro | intro)
        all_goals (try first | omega | contradiction | exact Or.inl trivial | exact Or.inr trivial)
    · refine law_step (pc2 := 760) (k_settle R (wb _)) (fun v I1 J1 b1 hv c => ?_) (fun v I1 J1 b1 hv R1 => ?_)
      · refine b0_751 ?_
        try simp only [w_Ug, reduceIte, Nat.reduceEqDiff, Int.reduceEq, eq_self, if_true]
        repeat' (first | apply And.intro | intro)
        all_goals (try first | omega | contradiction | exact Or.inl trivial | exact Or.inr trivial)
      · have n1 := nx I1 J1 b1 R1
        refine b0_760 ?_
        try simp only [w_Ug, reduceIte, Nat.reduceEqDiff, Int.reduceEq, eq_self, if_true]
        repeat' (first | apply And.intro | intro)
        all_goals (try first | omega | contradiction | exact Or.inl trivial | exact Or.inr trivial)
    · refine law_step (pc2 := 783) (k_steps R (wb _)) (fun v I1 J1 b1 hv c => ?_) (fun v I1 J1 b1 hv R1 => ?_)
      · refine b0_774 ?_
        try simp only [w_Ug, reduceIte, Nat.reduceEqDiff, Int.reduceEq, eq_self, if_true]
        repeat' (first | apply And.intro | intro)
        all_goals (try first | omega | contradiction | exact Or.inl trivial | exact Or.inr trivial)
      · have n1 := nx I1 J1 b1 R1
        refine b0_783 ?_
        try simp only [w_Ug, reduceIte, Nat.reduceEqDiff, Int.reduceEq, eq_self, if_true]
        repeat' (first | apply And.intro | intro)
        all_goals (try first | omega | contradiction | exact Or.inl trivial | exact Or.inr trivial)
    · refine law_step (pc2 := 796) (k_mean R) (fun v I1 J1 b1 hv c => ?_) (fun v I1 J1 b1 hv R1 => ?_)
      · refine b0_792 ?_
        try simp only [w_Ug, reduceIte, Nat.reduceEqDiff, Int.reduceEq, eq_self, if_true]
        repeat' (first | apply And.intro | intro)
        all_goals (try first | omega | contradiction | exact Or.inl trivial | exact Or.inr trivial)
      · have n1 := nx I1 J1 b1 R1
        refine b0_796 ?_
        try simp only [w_Ug, reduceIte, Nat.reduceEqDiff, Int.reduceEq, eq_self, if_true]
        repeat' (first | apply And.intro | intro)
        all_goals (try first | omega | contradiction | exact Or.inl trivial | exact Or.inr trivial)
    · refine law_step (pc2 := 835) (k_where R (by decide)) (fun v I1 J1 b1 hv c => ?_) (fun v I1 J1 b1 hv R1 => ?_)
      · refine b0_818 ?_
        try simp only [w_Ug, reduceIte, Nat.reduceEqDiff, Int.reduceEq, eq_self, if_true]
        repeat' (first | apply And.intro | intro)
        all_goals (try first | omega | contradiction | exact Or.inl trivial | exact Or.inr trivial)
      · have n1 := nx I1 J1 b1 R1
        refine b0_835 ?_
        try simp only [w_Ug, reduceIte, Nat.reduceEqDiff, Int.reduceEq, eq_self, if_true]
        repeat' (first | apply And.intro | intro)
        all_goals (try first | omega | contradiction | exact Or.inl trivial | exact Or.inr trivial)
    · refine law_step (pc2 := 835) (k_where R (by decide)) (fun v I1 J1 b1 hv c => ?_) (fun v I1 J1 b1 hv R1 => ?_)
      · refine b0_818 ?_
        try simp only [w_Ug, reduceIte, Nat.reduceEqDiff, Int.reduceEq, eq_self, if_true]
        repeat' (first | apply And.intro | intro)
        all_goals (try first | omega | contradiction | exact Or.inl trivial | exact Or.inr trivial)
      · have n1 := nx I1 J1 b1 R1
        refine b0_835 ?_
        try simp only [w_Ug, reduceIte, Nat.reduceEqDiff, Int.reduceEq, eq_self, if_true]
        repeat' (first | apply And.intro | intro)
        all_goals (try first | omega | contradiction | exact Or.inl trivial | exact Or.inr trivial)
    · refine law_step (pc2 := 848) (k_gap R) (fun v I1 J1 b1 hv c => ?_) (fun v I1 J1 b1 hv R1 => ?_)
      · refine b0_844 ?_
        try simp only [w_Ug, reduceIte, Nat.reduceEqDiff, Int.reduceEq, eq_self, if_true]
        repeat' (first | apply And.intro | intro)
        all_goals (try first | omega | contradiction | exact Or.inl trivial | exact Or.inr trivial)
      · have n1 := nx I1 J1 b1 R1
        refine b0_848 ?_
        try simp only [w_Ug, reduceIte, Nat.reduceEqDiff, Int.reduceEq, eq_self, if_true]
        repeat' (first | apply And.intro | intro)
        all_goals (try first | omega | contradiction | exact Or.inl trivial | exact Or.inr trivial)
    · refine law_step (pc2 := 871) (k_part R (wb _)) (fun v I1 J1 b1 hv c => ?_) (fun v I1 J1 b1 hv R1 => ?_)
      · refine b0_862 ?_
        try simp only [w_Ug, reduceIte, Nat.reduceEqDiff, Int.reduceEq, eq_self, if_true]
        repeat' (first | apply And.intro | intro)
        all_goals (try first | omega | contradiction | exact Or.inl trivial | exact Or.inr trivial)
      · have n1 := nx I1 J1 b1 R1
        refine b0_871 ?_
        try simp only [w_Ug, reduceIte, Nat.reduceEqDiff, Int.reduceEq, eq_self, if_true]
        repeat' (first | apply And.intro | intro)
        all_goals (try first | omega | contradiction | exact Or.inl trivial | exact Or.inr trivial)
    · refine law_step (pc2 := 914) (k_move R (wb _) (wb _) (wb _)) (fun v I1 J1 b1 hv c => ?_) (fun v I1 J1 b1 hv R1 => ?_)
      · refine b0_895 ?_
        try simp only [w_Ug, reduceIte, Nat.reduceEqDiff, Int.reduceEq, eq_self, if_true]
        repeat' (first | apply And.intro | intro)
        all_goals (try first | omega | contradiction | exact Or.inl trivial | exact Or.inr trivial)
      · have n1 := nx I1 J1 b1 R1
        refine b0_914 ?_
        try simp only [w_Ug, reduceIte, Nat.reduceEqDiff, Int.reduceEq, eq_self, if_true]
        repeat' (first | apply And.intro | intro)
        all_goals (try first | omega | contradiction | exact Or.inl trivial | exact Or.inr trivial)
    · refine law_step (pc2 := 927) (k_forget R) (fun v I1 J1 b1 hv c => ?_) (fun v I1 J1 b1 hv R1 => ?_)
      · refine b0_923 ?_
        try simp only [w_Ug, reduceIte, Nat.reduceEqDiff, Int.reduceEq, eq_self, if_true]
        repeat' (first | apply And.intro | intro)
        all_goals (try first | omega | contradiction | exact Or.inl trivial | exact Or.inr trivial)
      · have n1 := nx I1 J1 b1 R1
        refine b0_927 ?_
        try simp only [w_Ug, reduceIte, Nat.reduceEqDiff, Int.reduceEq, eq_self, if_true]
        repeat' (first | apply And.intro | intro)
        all_goals (try first | omega | contradiction | exact Or.inl trivial | exact Or.inr trivial)
    · refine law_step (pc2 := 940) (k_judge R) (fun v I1 J1 b1 hv c => ?_) (fun v I1 J1 b1 hv R1 => ?_)
      · refine b0_936 ?_
        try simp only [w_Ug, reduceIte, Nat.reduceEqDiff, Int.reduceEq, eq_self, if_true]
        repeat' (first | apply And.intro | intro)
        all_goals (try first | omega | contradiction | exact Or.inl trivial | exact Or.inr trivial)
      · have n1 := nx I1 J1 b1 R1
        refine b0_940 ?_
        try simp only [w_Ug, reduceIte, Nat.reduceEqDiff, Int.reduceEq, eq_self, if_true]
        repeat' (first | apply And.intro | intro)
        all_goals (try first | omega | contradiction | exact Or.inl trivial | exact Or.inr trivial)
    · refine law_step (pc2 := 953) (k_done R) (fun v I1 J1 b1 hv c => ?_) (fun v I1 J1 b1 hv R1 => ?_)
      · refine b0_949 ?_
        try simp only [w_Ug, reduceIte, Nat.reduceEqDiff, Int.reduceEq, eq_self, if_true]
        repeat' (first | apply And.intro | intro)
        all_goals (try first | omega | contradiction | exact Or.inl trivial | exact Or.inr trivial)
      · have n1 := nx I1 J1 b1 R1
        refine b0_953 ?_
        try simp only [w_Ug, reduceIte, Nat.reduceEqDiff, Int.reduceEq, eq_self, if_true]
        repeat' (first | apply And.intro | intro)
        all_goals (try first | omega | contradiction | exact Or.inl trivial | exact Or.inr trivial)
    · refine law_step (pc2 := 986) (k_worth R (wb _) (wb _)) (fun v I1 J1 b1 hv c => ?_) (fun v I1 J1 b1 hv R1 => ?_)
      · refine b0_972 ?_
        try simp only [w_Ug, reduceIte, Nat.reduceEqDiff, Int.reduceEq, eq_self, if_true]
        repeat' (first | apply And.intro | intro)
        all_goals (try first | omega | contradiction | exact Or.inl trivial | exact Or.inr trivial)
      · have n1 := nx I1 J1 b1 R1
        refine b0_986 ?_
        try simp only [w_Ug, reduceIte, Nat.reduceEqDiff, Int.reduceEq, eq_self, if_true]
        repeat' (first | apply And.intro | intro)
        all_goals (try first | omega | contradiction | exact Or.inl trivial | exact Or.inr trivial)
    · refine law_step (pc2 := 1009) (k_change R (wb _)) (fun v I1 J1 b1 hv c => ?_) (fun v I1 J1 b1 hv R1 => ?_)
      · refine b0_1000 ?_
        try simp only [w_Ug, reduceIte, Nat.reduceEqDiff, Int.reduceEq, eq_self, if_true]
        repeat' (first | apply And.intro | intro)
        all_goals (try first | omega | contradiction | exact Or.inl trivial | exact Or.inr trivial)
      · have n1 := nx I1 J1 b1 R1
        refine b0_1009 ?_
        try simp only [w_Ug, reduceIte, Nat.reduceEqDiff, Int.reduceEq, eq_self, if_true]
        repeat' (first | apply And.intro | intro)
        all_goals (try first | omega | contradiction | exact Or.inl trivial | exact Or.inr trivial)
    · refine law_stepL (pc2 := 1042) (k_waits R (wb _) (wb _)) (fun v I1 J1 b1 hv c => ?_) (fun v I1 J1 b1 hv R1 => ?_)
      · refine b0_1028 ?_
        try simp only [w_Ug, reduceIte, Nat.reduceEqDiff, Int.reduceEq, eq_self, if_true]
        repeat' (first | apply And.intro | intro)
        all_goals (try first | omega | contradiction | exact Or.inl trivial | exact Or.inr trivial)
      · have n1 := nx I1 J1 b1 R1
        refine b0_1042 ?_
        try simp only [w_Ug, reduceIte, Nat.reduceEqDiff, Int.reduceEq, eq_self, if_true]
        repeat' (first | apply And.intro | intro)
        all_goals (try first | omega | contradiction | exact Or.inl trivial | exact Or.inr trivial)
    · refine law_step (pc2 := 1102) (k_marry R (wb _) (wb _) (by decide)) (fun v I1 J1 b1 hv c => ?_) (fun v I1 J1 b1 hv R1 => ?_)
      · refine b0_1075 ?_
        try simp only [w_Ug, reduceIte, Nat.reduceEqDiff, Int.reduceEq, eq_self, if_true]
        repeat' (first | apply And.intro | intro)
        all_goals (try first | omega | contradiction | exact Or.inl trivial | exact Or.inr trivial)
      · have n1 := nx I1 J1 b1 R1
        refine b0_1102 ?_
        try simp only [w_Ug, reduceIte, Nat.reduceEqDiff, Int.reduceEq, eq_self, if_true]
        repeat' (first | apply And.intro | intro)
        all_goals (try first | omega | contradiction | exact Or.inl trivial | exact Or.inr trivial)
    · refine law_step (pc2 := 1102) (k_marry R (wb _) (wb _) (by decide)) (fun v I1 J1 b1 hv c => ?_) (fun v I1 J1 b1 hv R1 => ?_)
      · refine b0_1075 ?_
        try simp only [w_Ug, reduceIte, Nat.reduceEqDiff, Int.reduceEq, eq_self, if_true]
        repeat' (first | apply And.intro | intro)
        all_goals (try first | omega | contradiction | exact Or.inl trivial | exact Or.inr trivial)
      · have n1 := nx I1 J1 b1 R1
        refine b0_1102 ?_
        try simp only [w_Ug, reduceIte, Nat.reduceEqDiff, Int.reduceEq, eq_self, if_true]
        repeat' (first | apply And.intro | intro)
        all_goals (try first | omega | contradiction | exact Or.inl trivial | exact Or.inr trivial)
    · refine law_step (pc2 := 1145) (k_years R (wb _) (wb _)) (fun v I1 J1 b1 hv c => ?_) (fun v I1 J1 b1 hv R1 => ?_)
      · refine b0_1126 ?_
        try simp only [w_Ug, reduceIte, Nat.reduceEqDiff, Int.reduceEq, eq_self, if_true]
        repeat' (first | apply And.intro | intro)
        all_goals (try first | omega | contradiction | exact Or.inl trivial | exact Or.inr trivial)
      · have n1 := nx I1 J1 b1 R1
        refine b0_1145 ?_
        try simp only [w_Ug, reduceIte, Nat.reduceEqDiff, Int.reduceEq, eq_self, if_true]
        repeat' (first | apply And.intro | intro)
        all_goals (try first | omega | contradiction | exact Or.inl trivial | exact Or.inr trivial)
    · refine law_step (pc2 := 1168) (k_hold R (wb _)) (fun v I1 J1 b1 hv c => ?_) (fun v I1 J1 b1 hv R1 => ?_)
      · refine b0_1159 ?_
        try simp only [w_Ug, reduceIte, Nat.reduceEqDiff, Int.reduceEq, eq_self, if_true]
        repeat' (first | apply And.intro | intro)
        all_goals (try first | omega | contradiction | exact Or.inl trivial | exact Or.inr trivial)
      · have n1 := nx I1 J1 b1 R1
        refine b0_1168 ?_
        try simp only [w_Ug, reduceIte, Nat.reduceEqDiff, Int.reduceEq, eq_self, if_true]
        repeat' (first | apply And.intro | intro)
        all_goals (try first | omega | contradiction | exact Or.inl trivial | exact Or.inr trivial)
    · refine law_step (pc2 := 1191) (k_restore R (wb _)) (fun v I1 J1 b1 hv c => ?_) (fun v I1 J1 b1 hv R1 => ?_)
      · refine b0_1182 ?_
        try simp only [w_Ug, reduceIte, Nat.reduceEqDiff, Int.reduceEq, eq_self, if_true]
        repeat' (first | apply And.intro | intro)
        all_goals (try first | omega | contradiction | exact Or.inl trivial | exact Or.inr trivial)
      · have n1 := nx I1 J1 b1 R1
        refine b0_1191 ?_
        try simp only [w_Ug, reduceIte, Nat.reduceEqDiff, Int.reduceEq, eq_self, if_true]
        repeat' (first | apply And.intro | intro)
        all_goals (try first | omega | contradiction | exact Or.inl trivial | exact Or.inr trivial)
    · refine law_step (pc2 := 1214) (k_count R (wb _)) (fun v I1 J1 b1 hv c => ?_) (fun v I1 J1 b1 hv R1 => ?_)
      · refine b0_1205 ?_
        try simp only [w_Ug, reduceIte, Nat.reduceEqDiff, Int.reduceEq, eq_self, if_true]
        repeat' (first | apply And.intro | intro)
        all_goals (try first | omega | contradiction | exact Or.inl trivial | exact Or.inr trivial)
      · have n1 := nx I1 J1 b1 R1
        refine b0_1214 ?_
        try simp only [w_Ug, reduceIte, Nat.reduceEqDiff, Int.reduceEq, eq_self, if_true]
        repeat' (first | apply And.intro | intro)
        all_goals (try first | omega | contradiction | exact Or.inl trivial | exact Or.inr trivial)
end
