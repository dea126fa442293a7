section
/-! reading, the reference: expressions -/
variable {xs : Nat → Int32} {xl : Nat} {I J : w_I} {b : Bool} {Q : Option Value → w_I → w_I → Bool → Prop}
variable {K V P M : Int → Int} {N : Int}
theorem s186 {w : Int} (hw : w_in w) (k : Q (some (w_i (if 12 < w ∧ w < 23 then w - 13 else -1))) I J b) : w_C xs xl 186 [w_i w] I J b Q := by
  refine e186 ?_
  by_cases c : 12 < w ∧ w < 23
  · rw [if_pos c] at k
    refine b186_0 ?_
    try simp only [w_Ug, reduceIte, Nat.reduceEqDiff, Int.reduceEq, eq_self, if_true]
    repeat' (first | apply And.intro | intro)
    all_goals (try first | omega | contradiction | exact Or.inl trivial | exact Or.inr trivial)
  · rw [if_neg c] at k
    refine b186_0 ?_
    try simp only [w_Ug, reduceIte, Nat.reduceEqDiff, Int.reduceEq, eq_self, if_true]
    repeat' (first | apply And.intro | intro)
    all_goals (try first | omega | contradiction | exact Or.inl trivial | exact Or.inr trivial)
def p28 (c : Int) (a : Nat) (k : Int) : Bool := (a == 104 && k == 28) || pzW c a k
theorem pzW_28 {c : Int} {I I' : w_I} (h : w_fr (pzW c) I I') : w_fr (p28 c) I I' := w_frm h (fun a k e => (Bool.or_eq_false_iff.mp e).2)
theorem p28_Y {c : Int} (hc : 0 ≤ c) {I I' : w_I} (h : w_fr (p28 c) I I') : w_fr pzY I I' := w_frm h (fun a k e => by
  unfold p28
  have h1 : w_fr (pzW c) (fun _ _ => 0) (fun a k => if pzW c a k then 1 else 0) := fun a k e => by
    try dsimp only
    rw [e]
    rfl
  have h2 := pzW_Y hc h1 a k e
  have h3 : pzW c a k = false := by
    cases h : pzW c a k
    · rfl
    · try dsimp only at h2
      rw [h] at h2
      cases h2
  rw [h3, Bool.or_false]
  unfold pzY at e
  simp only [Bool.or_eq_false_iff, Bool.and_eq_false_iff, decide_eq_false_iff_not, beq_eq_false_iff_ne, ne_eq] at e ⊢
  rcases e.1.1.1.1.1 with x | x
  · exact Or.inl x
  · exact Or.inr (by omega))
theorem s187 (hN : zN K V P N) (hT : zU I J K V P M N) {h c : Int} (h9 : I 104 7 = h) (hh : 0 ≤ h ∧ h ≤ N) (h99 : I 111 1 = c) (hc : 0 ≤ c ∧ c ≤ h)
    (k1 : (z_ex K V (401 - h).toNat h 1 0 [] []).1 = 0 → ∀ I', w_fr (p28 c) I I' → I' 104 7 = (z_ex K V (401 - h).toNat h 1 0 [] []).2.1 → I' 104 28 = c → I' 111 1 = c + (z_ex K V (401 - h).toNat h 1 0 [] []).2.2.length → z_ro (I' 112) (I' 113) (500 + c) (z_ex K V (401 - h).toNat h 1 0 [] []).2.2 → Q (some (w_i 1)) I' J b)
    (k0 : (z_ex K V (401 - h).toNat h 1 0 [] []).1 ≠ 0 → ∀ I', zE I I' (z_ex K V (401 - h).toNat h 1 0 [] []).1 (P (z_ex K V (401 - h).toNat h 1 0 [] []).2.1) → Q (some (w_i 0)) I' J b) : w_C xs xl 187 [.ref 104] I J b Q := by
  have hNN := hN.1.2
  refine e187 (b187_0 ?_)
  rw [h99]
  generalize hR : z_ex K V (401 - h).toNat h 1 0 [] [] = R at k1 k0
  have f0 : w_fr (p28 c) I (w_U (w_U I 104 28 c) 104 26 0) := w_frU (w_frU w_frr rfl) rfl
  have z28 : (w_U (w_U I 104 28 c) 104 26 0) 104 28 = c := by simp [w_Ug]
  have zy0 : zY (w_U (w_U I 104 28 c) 104 26 0) h c [] [] := ⟨by simp [w_Ug]; exact h9, by simp [w_Ug], trivial, by rw [w_Ua (by decide), w_Ua (by decide), h99]; show c = c + 0; omega, trivial, trivial⟩
  have hT : zU (w_U (w_U I 104 28 c) 104 26 0) J K V P M N := zU_f hT (by rw [w_Ua (by decide), w_Ua (by decide)]) (by rw [w_Ua (by decide), w_Ua (by decide)]) (by rw [w_Ua (by decide), w_Ua (by decide)])
  generalize (w_U (w_U I 104 28 c) 104 26 0) = I0 at f0 z28 zy0 hT
  have loop : ∀ (n : Nat) (h' need op : Int) (u4 : Option Value) (W C : List Int) (I1 : w_I), (n : Int) + h' = 401 → h ≤ h' → h' ≤ N → (need = 0 ∨ need = 1) → z_wf W → (z_br W : Int) = op → op ≤ 6 → (C.length : Int) + z_nb W + h ≤ h' → zY I1 h' c W C → w_fr (pzW c) I0 I1 → z_ex K V n h' need op W C = R → w_T xs xl 187 21 [some (.ref 104), some (w_i op), some (w_i need), some (w_i 1), u4] [] [] I1 J b Q := by
    intro n
    induction n with
    | zero =>
      intro h' need op u4 W C I1 a0 a1 a2
      omega
    | succ n ih =>
      intro h' need op u4 W C I1 a0 a1 a2 a4 a5 a6 a7 a8 a9 a10 a11
      have hT1 : zU I1 J K V P M N := zU_f hT (w_frA a10 (fun _ => rfl)) (w_frA a10 (fun _ => rfl)) (w_frA a10 (fun _ => rfl))
      obtain ⟨x1, x2, x3, x4, x5⟩ := a9
      have hx : zY I1 h' c W C := ⟨x1, x2, x3, x4, x5⟩
      obtain ⟨u1, u2, u3, u4', u5⟩ := hT1 h' (by omega) a2
      have kb := hN.2.2.2.1 h' (by omega) a2
      have kb1 := kb.1
      have kb3 := kb.2.1
      have kb2 := kb.2.2.2
      have sb := zS_b kb1
      have nb := z_nb_b W a5
      have tb := z_tr_b W
      have nx : 2 ≤ K h' → h' < 400 → h' + 1 ≤ N := by
        intro x y
        rcases hN.2.2.1 with z | z
        · by_cases e : h' = N
          · subst e
            omega
          · omega
        · omega
      have sg : ∀ (kk cc : Int) (I2 : w_I) (Q2 : Option Value → w_I → w_I → Bool → Prop), zU I2 J K V P M N → I2 104 7 = h' → zW kk = cc → (4 ≤ kk ∧ kk ≤ 15) → (K h' = kk → Q2 (some (w_i 1)) I2 J b) → (¬ K h' = kk → Q2 (some (w_i 0)) I2 J b) → w_C xs xl 178 [.ref 104, w_i cc] I2 J b Q2 := fun kk cc I2 Q2 t1 t2 t3 t4 t5 t6 => s178 t1 hNN t2 (by omega) kb1 t3 t4 t5 t6
      have pas : ∀ (I2 : w_I) (W' C' : List Int) (Q2 : Option Value → w_I → w_I → Bool → Prop), zY I2 h' c W' C' → w_fr (pzW c) I0 I2 → (h' < 400 → Q2 (some (w_i 1)) (w_U I2 104 7 (h' + 1)) J b) → (400 ≤ h' → ∀ I', zE I I' 2 (P h') → Q2 (some (w_i 0)) I' J b) → w_C xs xl 177 [.ref 104] I2 J b Q2 := by
        intro I2 W' C' Q2 d1 d2 d3 d4
        have hT2 : zU I2 J K V P M N := zU_f hT (w_frA d2 (fun _ => rfl)) (w_frA d2 (fun _ => rfl)) (w_frA d2 (fun _ => rfl))
        exact s177 hT2 hNN d1.1 (by omega) d3 (fun x I' f => d4 x I' (zE_f f (p28_Y hc.1 (w_frt f0 (pzW_28 d2)))))
      have bad : ∀ (z : Int), (z = 1 ∨ z = 2) → ((z, h', []) : z_E) = R → ∀ I', zE I I' z (P h') → Q (some (w_i 0)) I' J b := by
        intro z hz e I' f
        rw [← e] at k0
        refine k0 ?_ I' f
        show z ≠ 0
        omega
      have wr : ∀ (z : Int) (Q2 : Option Value → w_I → w_I → Bool → Prop), (∀ I', zE I I' z (P h') → Q2 (some (w_i 0)) I' J b) → w_C xs xl 175 [.ref 104, w_i z] I1 J b Q2 := fun z Q2 q => s175 hT1 hNN x1 (by omega) (fun I' f => q I' (zE_f f (p28_Y hc.1 (w_frt f0 (pzW_28 a10)))))
      have mv : ∀ (I2 : w_I) (W' C' : List Int), zY I2 h' c W' C' → zY (w_U I2 104 7 (h' + 1)) (h' + 1) c W' C' := by
        intro I2 W' C' d1
        exact ⟨by simp [w_Ug], by simp [w_Ug]; exact d1.2.1, by rw [w_Ua (by decide)]; exact d1.2.2.1, by rw [w_Ua (by decide)]; exact d1.2.2.2.1, by rw [w_Ua (by decide), w_Ua (by decide)]; exact d1.2.2.2.2⟩
      unfold z_ex at a11
      rcases a4 with rfl | rfl
      · rw [if_neg (by decide)] at a11
        have fin8 : (K h' = 8 ∨ K h' = 9) → w_C xs xl 184 [.ref 104, w_i 2, w_i 0] I1 J b (fun v Ic Jc bc => w_T xs xl 187 196 [some (.ref 104), some (w_i op), some (w_i 0), some (w_i 1), u4] [] (w_pv v []) Ic Jc bc Q) := by
          intro c8
          have e : z_rk (K h') = 2 := by rcases c8 with x | x <;> (rw [x]; rfl)
          rw [if_pos (by omega), e] at a11
          obtain ⟨i1, i2, i3, i4, -⟩ := z_rd_b (least := 2) (by decide) W C a5
          have nb2 := z_nb_b _ i1
          have tb2 := z_tr_b (z_rd 2 W C).1
          refine s184 hx a5 (by omega) (by omega) (by omega) (fun I2 f2 y2 => b187_196 ?_)
          have f := w_frt a10 f2
          generalize z_rd 2 W C = D at a11 i1 i2 i3 i4 nb2 tb2 y2
          have hT2 : zU I2 J K V P M N := zU_f hT (w_frA f (fun _ => rfl)) (w_frA f (fun _ => rfl)) (w_frA f (fun _ => rfl))
          have y4 := zY_p (o := K h') y2
          have f4 : w_fr (pzW c) I0 (w_U (w_U I2 123 D.1.length (z_wo (K h'))) 104 26 (D.1.length + 1)) := w_frU (w_frU f rfl) rfl
          have e1 : z_nb (K h' :: D.1) = z_nb D.1 + 1 := if_neg (by omega)
          have e2 : z_br (K h' :: D.1) = z_br D.1 := if_neg (by omega)
          have nxt : w_C xs xl 177 [.ref 104] (w_U (w_U I2 123 D.1.length (z_wo (K h'))) 104 26 (D.1.length + 1)) J b (fun v Ic Jc bc => w_T xs xl 187 218 [some (.ref 104), some (w_i op), some (w_i 0), some (w_i 1), u4] [] (w_pv v []) Ic Jc bc Q) := by
            refine pas _ _ _ _ y4 f4 (fun cc => ?_) (fun cc I' g => ?_)
            · rw [if_neg (by omega)] at a11
              have nxt := ih (h' + 1) 1 op u4 (K h' :: D.1) D.2 _ (by omega) (by omega) (nx (by omega) cc) (Or.inr rfl) ⟨i1, Or.inr ⟨by omega, by rw [e]; exact i4⟩⟩ (by omega) a7 (by omega) (mv _ _ _ y4) (w_frU f4 rfl) a11
              refine b187_218 ?_
              try simp only [w_Ug, reduceIte, Nat.reduceEqDiff, Int.reduceEq, eq_self, if_true]
              repeat' (first | apply And.intro | intro)
              all_goals (try first | omega | contradiction | exact Or.inl trivial | exact Or.inr trivial)
            · rw [if_pos cc] at a11
              have kk := bad 2 (Or.inr rfl) a11 I' g
              refine b187_218 ?_
              try simp only [w_Ug, reduceIte, Nat.reduceEqDiff, Int.reduceEq, eq_self, if_true]
              repeat' (first | apply And.intro | intro)
              all_goals (try first | omega | contradiction | exact Or.inl trivial | exact Or.inr trivial)
          refine sg 8 42 I2 _ hT2 y2.1 rfl (by decide) (fun cc => ?_) (fun cc => ?_)
          · have e4 : z_wo (K h') = 4 := by rw [cc]; rfl
            rw [e4] at nxt
            refine b187_203 ?_
            try simp only [w_Ug, reduceIte, Nat.reduceEqDiff, Int.reduceEq, eq_self, if_true]
            repeat' (first | apply And.intro | intro)
            all_goals (try first | omega | contradiction | exact Or.inl trivial | exact Or.inr trivial)
            exact s185 y2.2.1 (by omega) (b187_214 nxt)
          · have e4 : z_wo (K h') = 5 := by rw [show K h' = 9 by omega]; rfl
            rw [e4] at nxt
            refine b187_203 ?_
            try simp only [w_Ug, reduceIte, Nat.reduceEqDiff, Int.reduceEq, eq_self, if_true]
            repeat' (first | apply And.intro | intro)
            all_goals (try first | omega | contradiction | exact Or.inl trivial | exact Or.inr trivial)
            exact s185 y2.2.1 (by omega) (b187_214 nxt)
        have fin6 : (K h' = 6 ∨ K h' = 7) → w_C xs xl 184 [.ref 104, w_i 1, w_i 0] I1 J b (fun v Ic Jc bc => w_T xs xl 187 252 [some (.ref 104), some (w_i op), some (w_i 0), some (w_i 1), u4] [] (w_pv v []) Ic Jc bc Q) := by
          intro c8
          have e : z_rk (K h') = 1 := by rcases c8 with x | x <;> (rw [x]; rfl)
          rw [if_pos (by omega), e] at a11
          obtain ⟨i1, i2, i3, i4, -⟩ := z_rd_b (least := 1) (by decide) W C a5
          have nb2 := z_nb_b _ i1
          have tb2 := z_tr_b (z_rd 1 W C).1
          refine s184 hx a5 (by omega) (by omega) (by omega) (fun I2 f2 y2 => b187_252 ?_)
          have f := w_frt a10 f2
          generalize z_rd 1 W C = D at a11 i1 i2 i3 i4 nb2 tb2 y2
          have hT2 : zU I2 J K V P M N := zU_f hT (w_frA f (fun _ => rfl)) (w_frA f (fun _ => rfl)) (w_frA f (fun _ => rfl))
          have y4 := zY_p (o := K h') y2
          have f4 : w_fr (pzW c) I0 (w_U (w_U I2 123 D.1.length (z_wo (K h'))) 104 26 (D.1.length + 1)) := w_frU (w_frU f rfl) rfl
          have e1 : z_nb (K h' :: D.1) = z_nb D.1 + 1 := if_neg (by omega)
          have e2 : z_br (K h' :: D.1) = z_br D.1 := if_neg (by omega)
          have nxt : w_C xs xl 177 [.ref 104] (w_U (w_U I2 123 D.1.length (z_wo (K h'))) 104 26 (D.1.length + 1)) J b (fun v Ic Jc bc => w_T xs xl 187 274 [some (.ref 104), some (w_i op), some (w_i 0), some (w_i 1), u4] [] (w_pv v []) Ic Jc bc Q) := by
            refine pas _ _ _ _ y4 f4 (fun cc => ?_) (fun cc I' g => ?_)
            · rw [if_neg (by omega)] at a11
              have nxt := ih (h' + 1) 1 op u4 (K h' :: D.1) D.2 _ (by omega) (by omega) (nx (by omega) cc) (Or.inr rfl) ⟨i1, Or.inr ⟨by omega, by rw [e]; exact i4⟩⟩ (by omega) a7 (by omega) (mv _ _ _ y4) (w_frU f4 rfl) a11
              refine b187_274 ?_
              try simp only [w_Ug, reduceIte, Nat.reduceEqDiff, Int.reduceEq, eq_self, if_true]
              repeat' (first | apply And.intro | intro)
              all_goals (try first | omega | contradiction | exact Or.inl trivial | exact Or.inr trivial)
            · rw [if_pos cc] at a11
              have kk := bad 2 (Or.inr rfl) a11 I' g
              refine b187_274 ?_
              try simp only [w_Ug, reduceIte, Nat.reduceEqDiff, Int.reduceEq, eq_self, if_true]
              repeat' (first | apply And.intro | intro)
              all_goals (try first | omega | contradiction | exact Or.inl trivial | exact Or.inr trivial)
          refine sg 6 43 I2 _ hT2 y2.1 rfl (by decide) (fun cc => ?_) (fun cc => ?_)
          · have e4 : z_wo (K h') = 2 := by rw [cc]; rfl
            rw [e4] at nxt
            refine b187_259 ?_
            try simp only [w_Ug, reduceIte, Nat.reduceEqDiff, Int.reduceEq, eq_self, if_true]
            repeat' (first | apply And.intro | intro)
            all_goals (try first | omega | contradiction | exact Or.inl trivial | exact Or.inr trivial)
            exact s185 y2.2.1 (by omega) (b187_270 nxt)
          · have e4 : z_wo (K h') = 3 := by rw [show K h' = 7 by omega]; rfl
            rw [e4] at nxt
            refine b187_259 ?_
            try simp only [w_Ug, reduceIte, Nat.reduceEqDiff, Int.reduceEq, eq_self, if_true]
            repeat' (first | apply And.intro | intro)
            all_goals (try first | omega | contradiction | exact Or.inl trivial | exact Or.inr trivial)
            exact s185 y2.2.1 (by omega) (b187_270 nxt)
        have fin0 : op ≤ 0 → ¬ (6 ≤ K h' ∧ K h' ≤ 9) → w_T xs xl 187 21 [some (.ref 104), some (w_i op), some (w_i 0), some (w_i 0), u4] [] [] I1 J b Q := by
          intro c0 c1
          rw [if_neg c1, if_pos (by omega)] at a11
          obtain ⟨i1, i2, i3, i4, -⟩ := z_rd_b (least := 1) (by decide) W C a5
          refine b187_21 ?_
          try simp only [w_Ug, reduceIte, Nat.reduceEqDiff, Int.reduceEq, eq_self, if_true]
          repeat' (first | apply And.intro | intro)
          all_goals (try first | omega | contradiction | exact Or.inl trivial | exact Or.inr trivial)
          refine s184 hx a5 (by omega) (by omega) (by omega) (fun I2 f2 y2 => b187_345 ?_)
          rw [← a11] at k1
          have f := w_frt a10 f2
          exact k1 rfl I2 (w_frt f0 (pzW_28 f)) y2.1 ((f 104 28 rfl).trans z28) y2.2.2.2.1 y2.2.2.2.2
        have fin15 : ¬ op ≤ 0 → ¬ (6 ≤ K h' ∧ K h' ≤ 9) → w_C xs xl 178 [.ref 104, w_i 41] I1 J b (fun v Ic Jc bc => w_T xs xl 187 294 [some (.ref 104), some (w_i op), some (w_i 0), some (w_i 1), u4] [] (w_pv v []) Ic Jc bc Q) := by
          intro c0 c1
          rw [if_neg c1, if_neg (by omega)] at a11
          obtain ⟨i1, i2, i3, i4, -⟩ := z_rd_b (least := 1) (by decide) W C a5
          obtain ⟨t1, t2⟩ := z_tr_1 i1 i4
          refine sg 15 41 I1 _ hT1 x1 rfl (by decide) (fun cc => ?_) (fun cc => ?_)
          · rw [if_pos cc] at a11
            obtain ⟨W', w1, w2, w3, w4⟩ := t2 (by omega)
            rw [w1, List.tail_cons] at a11
            rw [w1] at i3
            have w4' : z_nb (14 :: W') = z_nb W' := rfl
            refine b187_294 ?_
            try simp only [w_Ug, reduceIte, Nat.reduceEqDiff, Int.reduceEq, eq_self, if_true]
            repeat' (first | apply And.intro | intro)
            all_goals (try first | omega | contradiction | exact Or.inl trivial | exact Or.inr trivial)
            refine pas _ _ _ _ hx a10 (fun ch => ?_) (fun ch I' g => ?_)
            · rw [if_neg (by omega)] at a11
              refine b187_307 ?_
              try simp only [w_Ug, reduceIte, Nat.reduceEqDiff, Int.reduceEq, eq_self, if_true]
              repeat' (first | apply And.intro | intro)
              all_goals (try first | omega | contradiction | exact Or.inl trivial | exact Or.inr trivial)
              refine s184 (mv _ _ _ hx) a5 (by omega) (by omega) (by omega) (fun I2 f2 y2 => b187_318 ?_)
              have f := w_frt (w_frU a10 rfl) f2
              rw [w1] at y2
              obtain ⟨y1, y2, y3, y4, y5⟩ := y2
              refine ih (h' + 1) 0 (op + -1) u4 W' (z_rd 1 W C).2 _ (by omega) (by omega) (nx (by omega) ch) (Or.inl rfl) w2 (by omega) (by omega) (by omega) ⟨by simp [w_Ug]; exact y1, ?_, by rw [w_Ua (by decide)]; exact y3.2, by rw [w_Ua (by decide)]; exact y4, by rw [w_Ua (by decide), w_Ua (by decide)]; exact y5⟩ (w_frU f rfl) a11
              rw [z_len] at y2
              simp [w_Ug]
              omega
            · rw [if_pos ch] at a11
              have kk := bad 2 (Or.inr rfl) a11 I' g
              refine b187_307 ?_
              try simp only [w_Ug, reduceIte, Nat.reduceEqDiff, Int.reduceEq, eq_self, if_true]
              repeat' (first | apply And.intro | intro)
              all_goals (try first | omega | contradiction | exact Or.inl trivial | exact Or.inr trivial)
          · rw [if_neg cc] at a11
            have bd := bad 1 (Or.inl rfl) a11
            refine b187_294 ?_
            try simp only [w_Ug, reduceIte, Nat.reduceEqDiff, Int.reduceEq, eq_self, if_true]
            repeat' (first | apply And.intro | intro)
            all_goals (try first | omega | contradiction | exact Or.inl trivial | exact Or.inr trivial)
            exact wr 1 _ (fun I' f => b187_302 ⟨Or.inl rfl, bd I' f⟩)
        refine b187_21 ?_
        try simp only [w_Ug, reduceIte, Nat.reduceEqDiff, Int.reduceEq, eq_self, if_true]
        repeat' (first | apply And.intro | intro)
        all_goals (try first | omega | contradiction | exact Or.inl trivial | exact Or.inr trivial)
        refine sg 8 42 I1 _ hT1 x1 rfl (by decide) (fun c8 => ?_) (fun c8 => ?_)
        · refine b187_178 ?_
          try simp only [w_Ug, reduceIte, Nat.reduceEqDiff, Int.reduceEq, eq_self, if_true]
          repeat' (first | apply And.intro | intro)
          all_goals (try first | omega | contradiction | exact Or.inl trivial | exact Or.inr trivial)
          exact fin8 (Or.inl c8)
        · refine b187_178 ?_
          try simp only [w_Ug, reduceIte, Nat.reduceEqDiff, Int.reduceEq, eq_self, if_true]
          repeat' (first | apply And.intro | intro)
          all_goals (try first | omega | contradiction | exact Or.inl trivial | exact Or.inr trivial)
          refine sg 9 47 I1 _ hT1 x1 rfl (by decide) (fun c9 => ?_) (fun c9 => ?_)
          · refine b187_187 ?_
            try simp only [w_Ug, reduceIte, Nat.reduceEqDiff, Int.reduceEq, eq_self, if_true]
            repeat' (first | apply And.intro | intro)
            all_goals (try first | omega | contradiction | exact Or.inl trivial | exact Or.inr trivial)
            exact fin8 (Or.inr c9)
          · refine b187_187 ?_
            try simp only [w_Ug, reduceIte, Nat.reduceEqDiff, Int.reduceEq, eq_self, if_true]
            repeat' (first | apply And.intro | intro)
            all_goals (try first | omega | contradiction | exact Or.inl trivial | exact Or.inr trivial)
            refine sg 6 43 I1 _ hT1 x1 rfl (by decide) (fun c6 => ?_) (fun c6 => ?_)
            · refine b187_234 ?_
              try simp only [w_Ug, reduceIte, Nat.reduceEqDiff, Int.reduceEq, eq_self, if_true]
              repeat' (first | apply And.intro | intro)
              all_goals (try first | omega | contradiction | exact Or.inl trivial | exact Or.inr trivial)
              exact fin6 (Or.inl c6)
            · refine b187_234 ?_
              try simp only [w_Ug, reduceIte, Nat.reduceEqDiff, Int.reduceEq, eq_self, if_true]
              repeat' (first | apply And.intro | intro)
              all_goals (try first | omega | contradiction | exact Or.inl trivial | exact Or.inr trivial)
              refine sg 7 45 I1 _ hT1 x1 rfl (by decide) (fun c7 => ?_) (fun c7 => ?_)
              · refine b187_243 ?_
                try simp only [w_Ug, reduceIte, Nat.reduceEqDiff, Int.reduceEq, eq_self, if_true]
                repeat' (first | apply And.intro | intro)
                all_goals (try first | omega | contradiction | exact Or.inl trivial | exact Or.inr trivial)
                exact fin6 (Or.inr c7)
              · by_cases c0 : op ≤ 0
                · have q := fin0 c0 (by omega)
                  refine b187_243 ?_
                  try simp only [w_Ug, reduceIte, Nat.reduceEqDiff, Int.reduceEq, eq_self, if_true]
                  repeat' (first | apply And.intro | intro)
                  all_goals (try first | omega | contradiction | exact Or.inl trivial | exact Or.inr trivial)
                · have q := fin15 c0 (by omega)
                  refine b187_243 ?_
                  try simp only [w_Ug, reduceIte, Nat.reduceEqDiff, Int.reduceEq, eq_self, if_true]
                  repeat' (first | apply And.intro | intro)
                  all_goals (try first | omega | contradiction | exact Or.inl trivial | exact Or.inr trivial)
      · rw [if_pos rfl] at a11
        have emi : ∀ (x : Int) (u : Option Value), (0 ≤ x ∧ x < 10010) → 2 ≤ K h' → (if 400 ≤ h' then (2, h', []) else z_ex K V n (h' + 1) 0 op W (C ++ [x])) = R → w_C xs xl 182 [.ref 104, w_i (z_op x), w_i (z_va x)] I1 J b (fun v Ic Jc bc => w_T xs xl 187 158 [some (.ref 104), some (w_i op), some (w_i 1), some (w_i 1), u] [] (w_pv v []) Ic Jc bc Q) := by
          intro x u hx0 hk2 aa
          have y4 := zY_w (x := x) hx
          have p1 := pzW_112 (c := c) (k := 500 + (c + C.length)) (by omega)
          have f4 : w_fr (pzW c) I0 (w_U (w_U (w_U I1 112 (500 + (c + C.length)) (z_op x)) 113 (500 + (c + C.length)) (z_va x)) 111 1 (c + C.length + 1)) := w_frU (w_frU (w_frU a10 p1.1) p1.2) rfl
          have l1 : (((C ++ [x]).length : Nat) : Int) = C.length + 1 := by rw [z_lena]; rfl
          refine s182 (c := c + C.length) x4 (by omega) (b187_158 ?_)
          refine pas _ _ _ _ y4 f4 (fun cc => ?_) (fun cc I' g => ?_)
          · rw [if_neg (by omega)] at aa
            have nxt := ih (h' + 1) 0 op u W (C ++ [x]) _ (by omega) (by omega) (nx hk2 cc) (Or.inl rfl) a5 a6 a7 (by omega) (mv _ _ _ y4) (w_frU f4 rfl) aa
            refine b187_162 ?_
            try simp only [w_Ug, reduceIte, Nat.reduceEqDiff, Int.reduceEq, eq_self, if_true]
            repeat' (first | apply And.intro | intro)
            all_goals (try first | omega | contradiction | exact Or.inl trivial | exact Or.inr trivial)
          · rw [if_pos cc] at aa
            have kk := bad 2 (Or.inr rfl) aa I' g
            refine b187_162 ?_
            try simp only [w_Ug, reduceIte, Nat.reduceEqDiff, Int.reduceEq, eq_self, if_true]
            repeat' (first | apply And.intro | intro)
            all_goals (try first | omega | contradiction | exact Or.inl trivial | exact Or.inr trivial)
        refine b187_21 ?_
        try simp only [w_Ug, reduceIte, Nat.reduceEqDiff, Int.reduceEq, eq_self, if_true]
        repeat' (first | apply And.intro | intro)
        all_goals (try first | omega | contradiction | exact Or.inl trivial | exact Or.inr trivial)
        refine sg 14 40 I1 _ hT1 x1 rfl (by decide) (fun c14 => ?_) (fun c14 => ?_)
        · rw [if_pos c14] at a11
          by_cases c6 : op = 6
          · rw [if_pos c6] at a11
            have bd := bad 2 (Or.inr rfl) a11
            refine b187_35 ?_
            try simp only [w_Ug, reduceIte, Nat.reduceEqDiff, Int.reduceEq, eq_self, if_true]
            repeat' (first | apply And.intro | intro)
            all_goals (try first | omega | contradiction | exact Or.inl trivial | exact Or.inr trivial)
            exact wr 2 _ (fun I' f => b187_49 ⟨Or.inl rfl, bd I' f⟩)
          · rw [if_neg c6] at a11
            refine b187_35 ?_
            try simp only [w_Ug, reduceIte, Nat.reduceEqDiff, Int.reduceEq, eq_self, if_true]
            repeat' (first | apply And.intro | intro)
            all_goals (try first | omega | contradiction | exact Or.inl trivial | exact Or.inr trivial)
            refine pas _ _ _ _ hx a10 (fun ch => ?_) (fun ch I' g => ?_)
            · rw [if_neg (by omega)] at a11
              refine b187_54 ?_
              try simp only [w_Ug, reduceIte, Nat.reduceEqDiff, Int.reduceEq, eq_self, if_true]
              repeat' (first | apply And.intro | intro)
              all_goals (try first | omega | contradiction | exact Or.inl trivial | exact Or.inr trivial)
              have m1 := mv _ _ _ hx
              have e1 : z_nb (14 :: W) = z_nb W := rfl
              have e2 : z_br (14 :: W) = z_br W + 1 := rfl
              exact s185 m1.2.1 (by omega) (b187_67 (ih (h' + 1) 1 (op + 1) u4 (14 :: W) C _ (by omega) (by omega) (nx (by omega) ch) (Or.inr rfl) ⟨a5, Or.inl rfl⟩ (by omega) (by omega) (by omega) (zY_p (o := 14) m1) (w_frU (w_frU (w_frU a10 rfl) rfl) rfl) a11))
            · rw [if_pos ch] at a11
              have kk := bad 2 (Or.inr rfl) a11 I' g
              refine b187_54 ?_
              try simp only [w_Ug, reduceIte, Nat.reduceEqDiff, Int.reduceEq, eq_self, if_true]
              repeat' (first | apply And.intro | intro)
              all_goals (try first | omega | contradiction | exact Or.inl trivial | exact Or.inr trivial)
        · rw [if_neg c14] at a11
          by_cases c3 : K h' = 3
          · rw [if_pos c3] at a11
            have e := emi (V h') (some (w_i (-1))) (by omega) (by omega) a11
            have e1 : z_op (V h') = 0 := if_pos (by omega)
            have e2 : z_va (V h') = V h' := if_pos (by omega)
            rw [e1, e2] at e
            have u3 := u3 c3
            have s1 : zS (K h') = 1 := sb.2.1.mpr c3
            rw [s1] at u1
            refine b187_35 ?_
            try simp only [w_Ug, reduceIte, Nat.reduceEqDiff, Int.reduceEq, eq_self, x1, u1, u3]
            repeat' (first | apply And.intro | intro)
            all_goals (try first | omega | contradiction | exact Or.inl trivial | exact Or.inr trivial)
          · rw [if_neg c3] at a11
            by_cases c20 : 20 ≤ K h'
            · have s3 : zS (K h') = 3 := sb.2.2.2.1.mpr (by omega)
              have u4' := u4' (by omega)
              have wb := zW_b (k := K h') (by omega)
              rw [s3] at u1
              refine b187_35 ?_
              try simp only [w_Ug, reduceIte, Nat.reduceEqDiff, Int.reduceEq, eq_self, x1, u1, u4']
              repeat' (first | apply And.intro | intro)
              all_goals (try first | omega | contradiction | exact Or.inl trivial | exact Or.inr trivial)
              refine s186 (by omega) ?_
              have w20 := zW_20 c20
              by_cases c37 : 37 ≤ K h'
              · have ew : zW (K h') = K h' - 24 := by
                  rw [w20, if_neg (by omega), if_neg (by omega), if_neg (by omega), if_neg (by omega), if_neg (by omega), if_neg (by omega), if_neg (by omega)]
                rw [if_pos c37] at a11
                rw [ew, if_pos (by omega), show K h' - 24 - 13 = K h' - 37 by omega]
                have e := emi (10000 + K h' - 37) (some (w_i (K h' - 37))) (by omega) (by omega) a11
                have e1 : z_op (10000 + K h' - 37) = 1 := by unfold z_op; rw [if_neg (by omega), if_pos (by omega)]
                have e2 : z_va (10000 + K h' - 37) = K h' - 37 := by unfold z_va; rw [if_neg (by omega), if_pos (by omega)]; omega
                rw [e1, e2] at e
                refine b187_95 ?_
                try simp only [w_Ug, reduceIte, Nat.reduceEqDiff, Int.reduceEq, eq_self, x1, u1]
                repeat' (first | apply And.intro | intro)
                all_goals (try first | omega | contradiction | exact Or.inl trivial | exact Or.inr trivial)
              · have ew : ¬ (12 < zW (K h') ∧ zW (K h') < 23) := by
                  rw [w20]
                  repeat' split
                  all_goals omega
                rw [if_neg c37] at a11
                rw [if_neg ew]
                have bd := bad 1 (Or.inl rfl) a11
                have q := wr 1 (fun v Ic Jc bc => w_T xs xl 187 124 [some (.ref 104), some (w_i op), some (w_i 1), some (w_i 1), some (w_i (-1))] [] (w_pv v []) Ic Jc bc Q) (fun I' f => b187_124 ⟨Or.inl rfl, bd I' f⟩)
                refine b187_95 ?_
                try simp only [w_Ug, reduceIte, Nat.reduceEqDiff, Int.reduceEq, eq_self, x1, u1]
                repeat' (first | apply And.intro | intro)
                all_goals (try first | omega | contradiction | exact Or.inl trivial | exact Or.inr trivial)
            · rw [if_neg (by omega)] at a11
              have bd := bad 1 (Or.inl rfl) a11
              have q := wr 1 (fun v Ic Jc bc => w_T xs xl 187 124 [some (.ref 104), some (w_i op), some (w_i 1), some (w_i 1), some (w_i (-1))] [] (w_pv v []) Ic Jc bc Q) (fun I' f => b187_124 ⟨Or.inl rfl, bd I' f⟩)
              refine b187_35 ?_
              try simp only [w_Ug, reduceIte, Nat.reduceEqDiff, Int.reduceEq, eq_self, x1, u1]
              repeat' (first | apply And.intro | intro)
              all_goals (try first | omega | contradiction | exact Or.inl trivial | exact Or.inr trivial)
  refine loop (401 - h).toNat h 1 0 none [] [] I0 (by omega) (Int.le_refl _) hh.2 (Or.inr rfl) trivial rfl (by decide) ?_ zy0 w_frr hR
  show (0 : Int) + 0 + h ≤ h
  omega
end
