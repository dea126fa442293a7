section
/-! formulas: the class reckons -/
variable {xs : Nat → Int32} {xl : Nat} {I J : w_I} {b : Bool} {Q : Option Value → w_I → w_I → Bool → Prop}
def g_dec (w x y : Int) (fl : Bool) : Bool := if w = 20035 then decide (w_and x y ≠ 0) else if w = 20034 then decide (w_or x y ≠ 0) else if w = 20010 then !fl && decide (x = y) else if w = 20011 then !fl && decide (x ≠ y) else if w = 20012 then !fl && decide (x < y) else !fl && decide (x ≤ y)
def g_ev (c vars : Int → Int) : Nat → Int → List Int → Bool → List Int × Bool
  | 0, _, st, fl => (st, fl)
  | n + 1, k, st, fl => if c k < 10000 then g_ev c vars n (k + 1) (c k :: st) fl else if c k < 20000 then g_ev c vars n (k + 1) (vars (c k - 10000) :: st) fl else if c k = 20036 then (match st with
      | x :: r => g_ev c vars n (k + 1) (w_w (1 - x) :: r) fl
      | [] => ([], fl)) else (match st with
    | y :: x :: r => if c k ≤ 20009 then (if c k = 20009 ∧ y = 0 then g_ev c vars n (k + 1) (0 :: r) true else g_ev c vars n (k + 1) (f_bin (c k) x y :: r) fl) else g_ev c vars n (k + 1) ((if g_dec (c k) x y fl then 1 else 0) :: r) false
    | _ => (st, fl))
def g_ok (c : Int → Int) : Nat → Int → Nat → Prop
  | 0, _, d => d = 1
  | n + 1, k, d => (0 ≤ c k ∧ c k < 10010 ∧ d < 32 ∧ g_ok c n (k + 1) (d + 1)) ∨ (c k = 20036 ∧ 1 ≤ d ∧ g_ok c n (k + 1) d) ∨ (20006 ≤ c k ∧ c k ≤ 20040 ∧ c k ≠ 20036 ∧ 2 ≤ d ∧ g_ok c n (k + 1) (d - 1))
theorem c98 {w x y : Int} {fl : Bool} (hx : w_in x) (hy : w_in y) (hw : 10 ≤ w ∧ w ≤ 40) (hfl : I 79 3 = (if fl then 1 else 0)) (k1 : g_dec (20000 + w) x y fl = true → ∀ I', w_fr (fun a k => a == 79 && k == 3) I I' → I' 79 3 = 0 → Q (some (w_i 1)) I' J b) (k0 : g_dec (20000 + w) x y fl = false → ∀ I', w_fr (fun a k => a == 79 && k == 3) I I' → I' 79 3 = 0 → Q (some (w_i 0)) I' J b) : w_C xs xl 98 [.ref 79, w_i w, w_i x, w_i y] I J b Q := by
  have ha : w_in (w_and x y) := by unfold w_and; exact w_bnd _
  have ho : w_in (w_or x y) := by unfold w_or; exact w_bnd _
  have fr : w_fr (fun a k => a == 79 && k == 3) I (w_U I 79 3 0) := w_frU w_frr rfl
  have f0 : w_U I 79 3 0 79 3 = 0 := by rw [w_Ug, if_pos rfl, if_pos rfl]
  unfold g_dec at k1 k0
  refine e98 ?_
  cases fl with
  | true =>
    simp only [if_true] at hfl
    refine b98_0 ?_
    try simp only [w_Ug, reduceIte, Nat.reduceEqDiff, Int.reduceEq, eq_self, hfl]
    repeat' (first | apply And.intro | intro)
    all_goals (try first | omega | contradiction | exact Or.inl trivial | exact Or.inr trivial)
    all_goals first
      | exact k1 (by simp (disch := omega) only [if_neg, if_pos, if_true, decide_true, decide_false, decide_eq_true, decide_eq_false] <;> first | rfl | (simp <;> omega)) _ fr f0
      | exact k0 (by simp (disch := omega) only [if_neg, if_pos, if_true, decide_true, decide_false, decide_eq_true, decide_eq_false] <;> first | rfl | (simp <;> omega)) _ fr f0
  | false =>
    rw [if_neg (by decide)] at hfl
    refine b98_0 ?_
    try simp only [w_Ug, reduceIte, Nat.reduceEqDiff, Int.reduceEq, eq_self, hfl]
    repeat' (first | apply And.intro | intro)
    all_goals (try first | omega | contradiction | exact Or.inl trivial | exact Or.inr trivial)
    all_goals first
      | exact k1 (by simp (disch := omega) only [if_neg, if_pos, if_true, decide_true, decide_false, decide_eq_true, decide_eq_false] <;> first | rfl | (simp <;> omega)) _ fr f0
      | exact k0 (by simp (disch := omega) only [if_neg, if_pos, if_true, decide_true, decide_false, decide_eq_true, decide_eq_false] <;> first | rfl | (simp <;> omega)) _ fr f0
def p96 (a : Nat) (k : Int) : Bool := a == 81 || (a == 79 && k == 3)
theorem c96 {c vars : Int → Int} {f fr to : Int} (h5 : I 5 = c) (h6 : I 6 f = fr) (h7 : I 7 f = to) (h80 : I 80 = vars) (hf : 0 ≤ f ∧ f < 10) (hb : 0 ≤ fr ∧ fr ≤ to ∧ to ≤ 404) (hok : g_ok c (to - fr).toNat fr 0) (hv : ∀ i, 0 ≤ i → i < 10 → w_in (vars i))
    (k : ∀ x fl, g_ev c vars (to - fr).toNat fr [] false = ([x], fl) → w_in x → ∀ I', w_fr p96 I I' → Q (some (w_i (if fl then 0 else x))) I' J b) : w_C xs xl 96 [.ref 79, w_i f] I J b Q := by
  generalize hR : g_ev c vars (to - fr).toNat fr [] false = R at k
  have loop : ∀ (n : Nat) (l2 l3 : Int) (u4 u5 u6 u7 : Option Value) (I1 : w_I) (st : List Int) (fl : Bool), l3 + n = to → fr ≤ l3 → (st.length : Int) = l2 → w_fr p96 I I1 → I1 79 3 = (if fl then 1 else 0) → f_stk (I1 81) st → (∀ x ∈ st, w_in x) → st.length ≤ 32 → g_ok c n l3 st.length →
      R = g_ev c vars n l3 st fl → w_T xs xl 96 24 [some (.ref 79), some (w_i f), some (w_i l2), some (w_i l3), u4, u5, u6, u7] [] [] I1 J b Q := by
    intro n
    induction n with
    | zero =>
      intro l2 l3 u4 u5 u6 u7 I1 st fl a0 a1 a2 a3 a4 a5 a6 a9 a7 a8
      have i7 : I1 7 f = to := by rw [w_frA a3 (fun _ => rfl)]; exact h7
      have a7' : st.length = 1 := a7
      match st, a7' with
      | [v], _ =>
        have e0 : I1 81 0 = v := a5.1
        have hv := a6 v (by simp)
        have kk := k v fl a8 hv I1 a3
        cases fl with
        | true =>
          simp only [if_true] at a4 kk
          refine b96_24 ?_
          try simp only [w_Ug, reduceIte, Nat.reduceEqDiff, Int.reduceEq, eq_self, i7, e0, a4]
          repeat' (first | apply And.intro | intro)
          all_goals (try first | omega | contradiction | exact Or.inl trivial | exact Or.inr trivial)
        | false =>
          rw [if_neg (by decide)] at a4 kk
          refine b96_24 ?_
          try simp only [w_Ug, reduceIte, Nat.reduceEqDiff, Int.reduceEq, eq_self, i7, e0, a4]
          repeat' (first | apply And.intro | intro)
          all_goals (try first | omega | contradiction | exact Or.inl trivial | exact Or.inr trivial)
    | succ n ih =>
      intro l2 l3 u4 u5 u6 u7 I1 st fl a0 a1 a2 a3 a4 a5 a6 a9 a7 a8
      have i7 : I1 7 f = to := by rw [w_frA a3 (fun _ => rfl)]; exact h7
      have i5 : I1 5 = c := (w_frA a3 (fun _ => rfl)).trans h5
      have i80 : I1 80 = vars := (w_frA a3 (fun _ => rfl)).trans h80
      have push : ∀ (v : Int) (u4 u5 u6 u7 : Option Value), w_in v → st.length < 32 → g_ok c n (l3 + 1) (st.length + 1) → R = g_ev c vars n (l3 + 1) (v :: st) fl → w_T xs xl 96 24 [some (.ref 79), some (w_i f), some (w_i (l2 + 1)), some (w_i (l3 + 1)), u4, u5, u6, u7] [] [] (w_U I1 81 l2 v) J b Q := by
        intro v u4 u5 u6 u7 hv hd hg hr
        refine ih (l2 + 1) (l3 + 1) _ _ _ _ _ (v :: st) fl (by omega) (by omega) (by simp; omega) (w_frU a3 rfl) a4 ?_ ?_ (by simp; omega) hg hr
        · refine ⟨?_, f_stk_c st (fun i x y => ?_) a5⟩
          · rw [w_Ug, if_pos rfl, if_pos (by omega)]
          · rw [w_Ug, if_pos rfl, if_neg (by omega)]
        · intro x hx
          rcases List.mem_cons.mp hx with e | e
          · subst e; exact hv
          · exact a6 x e
      unfold g_ok at a7
      unfold g_ev at a8
      rcases a7 with ⟨b0, b1, b2, b3⟩ | ⟨b0, b1, b2⟩ | ⟨b0, b1, b2, b3, b4⟩
      · by_cases c0 : c l3 < 10000
        · rw [if_pos c0] at a8
          refine b96_24 ?_
          try simp only [w_Ug, reduceIte, Nat.reduceEqDiff, Int.reduceEq, eq_self, i7, i5, i80]
          repeat' (first | apply And.intro | intro)
          all_goals (try first | omega | contradiction | exact Or.inl trivial | exact Or.inr trivial)
          exact push _ _ _ _ _ (by omega) b2 b3 a8
        · rw [if_neg c0, if_pos (by omega)] at a8
          have hvv := hv (c l3 - 10000) (by omega) (by omega)
          refine b96_24 ?_
          try simp only [w_Ug, reduceIte, Nat.reduceEqDiff, Int.reduceEq, eq_self, i7, i5, i80]
          repeat' (first | apply And.intro | intro)
          all_goals (try first | omega | contradiction | exact Or.inl trivial | exact Or.inr trivial)
          exact push _ _ _ _ _ hvv b2 b3 a8
      · rw [if_neg (by omega), if_neg (by omega), if_pos b0] at a8
        match st, b1 with
        | xx :: r, _ =>
          dsimp only at a8
          have hlen : (r.length : Int) + 1 = l2 := by simp at a2; omega
          have ex : I1 81 (l2 - 1) = xx := by
            have := a5.1
            rw [show ((r.length : Nat) : Int) = l2 - 1 by omega] at this
            exact this
          simp at a9
          refine b96_24 ?_
          try simp only [w_Ug, reduceIte, Nat.reduceEqDiff, Int.reduceEq, eq_self, i7, i5, i80, ex]
          repeat' (first | apply And.intro | intro)
          all_goals (try first | omega | contradiction | exact Or.inl trivial | exact Or.inr trivial)
          refine w_Th w_hw ?_
          refine ih l2 (l3 + 1) _ _ _ _ _ (w_w (1 - xx) :: r) fl (by omega) (by omega) (by simp; omega) (w_frU a3 rfl) a4 ?_ ?_ (by simp; omega) (by simpa using b2) a8
          · refine ⟨?_, f_stk_c r (fun i x y => ?_) a5.2⟩
            · rw [w_Ug, if_pos rfl, if_pos (by omega)]
            · rw [w_Ug, if_pos rfl, if_neg (by omega)]
          · intro x hx
            rcases List.mem_cons.mp hx with e | e
            · subst e; exact w_wi _
            · exact a6 x (by simp [e])
      · rw [if_neg (by omega), if_neg (by omega), if_neg b2] at a8
        match st, b3 with
        | yy :: xx :: r, _ =>
          dsimp only at a8
          have hlen : (r.length : Int) + 2 = l2 := by simp at a2; omega
          have ey : I1 81 (l2 + -1) = yy := by
            have := a5.1
            rw [show (((xx :: r).length : Nat) : Int) = l2 + -1 by simp; omega] at this
            exact this
          have ex : I1 81 (l2 + -1 - 1) = xx := by
            have := a5.2.1
            rw [show ((r.length : Nat) : Int) = l2 + -1 - 1 by omega] at this
            exact this
          have hy := a6 yy (by simp)
          have hx := a6 xx (by simp)
          simp at a9
          have fin : ∀ (v : Int) (fl' : Bool) (I2 : w_I) (u4 u5 u6 u7 : Option Value), w_in v → w_fr p96 I I2 → I2 79 3 = (if fl' then 1 else 0) → (∀ i, i ≠ l2 + -1 - 1 → I2 81 i = I1 81 i) → I2 81 (l2 + -1 - 1) = v → R = g_ev c vars n (l3 + 1) (v :: r) fl' → w_T xs xl 96 24 [some (.ref 79), some (w_i f), some (w_i (l2 + -1)), some (w_i (l3 + 1)), u4, u5, u6, u7] [] [] I2 J b Q := by
            intro v fl' I2 u4 u5 u6 u7 hv hfr h3 ho hn hr
            refine ih (l2 + -1) (l3 + 1) u4 u5 u6 u7 I2 (v :: r) fl' (by omega) (by omega) (by simp; omega) hfr h3 ?_ ?_ (by simp; omega) (by simpa using b4) hr
            · refine ⟨?_, f_stk_c r (fun i x y => ho i (by omega)) a5.2.2⟩
              rw [show ((r.length : Nat) : Int) = l2 + -1 - 1 by omega]
              exact hn
            · intro x hx
              rcases List.mem_cons.mp hx with e | e
              · subst e; exact hv
              · exact a6 x (by simp [e])
          by_cases hw : c l3 ≤ 20009
          · rw [if_pos hw] at a8
            refine b96_24 ?_
            try simp only [w_Ug, reduceIte, Nat.reduceEqDiff, Int.reduceEq, eq_self, i7, i5, i80, ey, ex]
            repeat' (first | apply And.intro | intro)
            all_goals (try first | omega | contradiction | exact Or.inl trivial | exact Or.inr trivial)
            refine e97 ?_
            by_cases cz : c l3 = 20009 ∧ yy = 0
            · rw [if_pos cz] at a8
              have cz1 := cz.1
              have cz2 := cz.2
              refine b97_0 ?_
              try simp only [w_Ug, reduceIte, Nat.reduceEqDiff, Int.reduceEq, eq_self, if_true]
              repeat' (first | apply And.intro | intro)
              all_goals (try first | omega | contradiction | exact Or.inl trivial | exact Or.inr trivial)
              refine b96_189 ?_
              try simp only [w_Ug, reduceIte, Nat.reduceEqDiff, Int.reduceEq, eq_self, if_true]
              repeat' (first | apply And.intro | intro)
              all_goals (try first | omega | contradiction | exact Or.inl trivial | exact Or.inr trivial)
              exact fin 0 true _ _ _ _ _ (by decide) (w_frU (w_frU a3 rfl) rfl) rfl (fun i hi => by rw [w_Ug, if_pos rfl, if_neg hi]; rfl) (by rw [w_Ug, if_pos rfl, if_pos rfl]) a8
            · rw [if_neg cz] at a8
              have fin2 : ∀ (v : Int), f_bin (c l3) xx yy = w_w v → w_T xs xl 96 189 [some (.ref 79), some (w_i f), some (w_i (l2 + -1)), some (w_i l3), some (w_i (c l3)), some (w_i (c l3 - 20000)), some (w_i xx), some (w_i yy)] [] [w_i v, w_i (l2 + -1 - 1), .ref 81] I1 J b Q := by
                intro v hv
                refine b96_189 ?_
                try simp only [w_Ug, reduceIte, Nat.reduceEqDiff, Int.reduceEq, eq_self, if_true]
                repeat' (first | apply And.intro | intro)
                all_goals (try first | omega | contradiction | exact Or.inl trivial | exact Or.inr trivial)
                refine w_Th w_hw ?_
                rw [← hv]
                exact fin _ fl _ _ _ _ _ (by unfold f_bin; exact w_wi _) (w_frU a3 rfl) a4 (fun i hi => by rw [w_Ug, if_pos rfl, if_neg hi]) (by rw [w_Ug, if_pos rfl, if_pos rfl]) a8
              refine b97_0 ?_
              try simp only [w_Ug, reduceIte, Nat.reduceEqDiff, Int.reduceEq, eq_self, if_true]
              repeat' (first | apply And.intro | intro)
              all_goals (try first | omega | contradiction | exact Or.inl trivial | exact Or.inr trivial)
              all_goals refine fin2 _ ?_
              all_goals unfold f_bin
              all_goals congr 1
              all_goals simp (disch := omega) only [if_neg, if_pos, if_true]
          · rw [if_neg hw] at a8
            refine b96_24 ?_
            try simp only [w_Ug, reduceIte, Nat.reduceEqDiff, Int.reduceEq, eq_self, i7, i5, i80, ey, ex]
            repeat' (first | apply And.intro | intro)
            all_goals (try first | omega | contradiction | exact Or.inl trivial | exact Or.inr trivial)
            refine c98 (fl := fl) hx hy (by omega) a4 (fun hd I2 fr2 z2 => ?_) (fun hd I2 fr2 z2 => ?_)
            · rw [show 20000 + (c l3 - 20000) = c l3 by omega] at hd
              rw [hd] at a8
              simp only [if_true] at a8
              have hfr : w_fr p96 I I2 := w_frt a3 (w_frm fr2 (fun a k e => by
                unfold p96 at e
                simp only [Bool.or_eq_false_iff] at e
                exact e.2))
              refine b96_202 ?_
              try simp only [w_Ug, reduceIte, Nat.reduceEqDiff, Int.reduceEq, eq_self, if_true]
              repeat' (first | apply And.intro | intro)
              all_goals (try first | omega | contradiction | exact Or.inl trivial | exact Or.inr trivial)
              exact fin 1 false _ _ _ _ _ (by decide) (w_frU hfr rfl) (by rw [w_Ug, if_neg (by decide)]; exact z2) (fun i hi => by rw [w_Ug, if_pos rfl, if_neg hi]; exact fr2 81 i rfl) (by rw [w_Ug, if_pos rfl, if_pos rfl]) a8
            · rw [show 20000 + (c l3 - 20000) = c l3 by omega] at hd
              rw [hd] at a8
              rw [if_neg (by decide)] at a8
              have hfr : w_fr p96 I I2 := w_frt a3 (w_frm fr2 (fun a k e => by
                unfold p96 at e
                simp only [Bool.or_eq_false_iff] at e
                exact e.2))
              refine b96_202 ?_
              try simp only [w_Ug, reduceIte, Nat.reduceEqDiff, Int.reduceEq, eq_self, if_true]
              repeat' (first | apply And.intro | intro)
              all_goals (try first | omega | contradiction | exact Or.inl trivial | exact Or.inr trivial)
              exact fin 0 false _ _ _ _ _ (by decide) (w_frU hfr rfl) (by rw [w_Ug, if_neg (by decide)]; exact z2) (fun i hi => by rw [w_Ug, if_pos rfl, if_neg hi]; exact fr2 81 i rfl) (by rw [w_Ug, if_pos rfl, if_pos rfl]) a8
  refine e96 ?_
  refine b96_0 ?_
  try simp only [w_Ug, reduceIte, Nat.reduceEqDiff, Int.reduceEq, eq_self, h6]
  repeat' (first | apply And.intro | intro)
  all_goals (try first | omega | contradiction | exact Or.inl trivial | exact Or.inr trivial)
  exact loop (to - fr).toNat 0 fr _ _ _ _ _ [] false (by omega) (Int.le_refl _) rfl (w_frU (w_frU w_frr rfl) rfl) rfl trivial (by simp) (by simp) hok hR.symm
end
