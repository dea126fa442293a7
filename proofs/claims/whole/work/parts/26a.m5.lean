section
/-! formulas: what they come to; the reference's sum -/
variable {xs : Nat → Int32} {xl : Nat} {I J : w_I} {b : Bool} {Q : Option Value → w_I → w_I → Bool → Prop}
def w_w (e : Int) : Int := (Int32.ofInt e).toInt
theorem w_ww (e : Int) : Int32.ofInt (w_w e) = Int32.ofInt e := by
  unfold w_w
  rw [Int32.ofInt_toInt]
theorem w_wi (e : Int) : w_in (w_w e) := w_bnd _
theorem w_we {e : Int} (h : w_in e) : w_w e = e := w_ti h
theorem w_Th {y pc : Nat} {L : x_L} {M : x_J} {S : List Value} {I' : w_I} (h : w_h I = w_h I') (t : w_T xs xl y pc L M S I' J b Q) : w_T xs xl y pc L M S I J b Q := by
  unfold w_T at t ⊢
  rw [h]
  exact t
theorem w_hw {I : w_I} {a : Nat} {k v : Int} : w_h (w_U I a k v) = w_h (w_U I a k (w_w v)) := by
  funext a' k'
  unfold w_h
  rw [w_Ug, w_Ug]
  split
  · split
    · rw [w_ww]
    · rfl
  · rfl
def f_bin (c x y : Int) : Int := w_w (if c = 20006 then x + y else if c = 20007 then x - y else if c = 20008 then x * y else x.tdiv y)
/-- a formula's code, n words from place k on, over a stack: none if it divides by 0 -/
def f_ev (c vars : Int → Int) : Nat → Int → List Int → Option (List Int)
  | 0, _, st => some st
  | n + 1, k, st => if c k < 10000 then f_ev c vars n (k + 1) (c k :: st) else if c k < 20000 then f_ev c vars n (k + 1) (vars (c k - 10000) :: st) else (match st with
    | y :: x :: r => if c k = 20009 ∧ y = 0 then none else f_ev c vars n (k + 1) (f_bin (c k) x y :: r)
    | _ => none)
def f_ok (c : Int → Int) : Nat → Int → Nat → Prop
  | 0, _, d => d = 1
  | n + 1, k, d => (0 ≤ c k ∧ c k < 10000 ∧ d < 20 ∧ f_ok c n (k + 1) (d + 1)) ∨ (10000 ≤ c k ∧ c k < 10010 ∧ d < 20 ∧ f_ok c n (k + 1) (d + 1)) ∨ (20006 ≤ c k ∧ c k ≤ 20009 ∧ 2 ≤ d ∧ f_ok c n (k + 1) (d - 1))
def f_stk (g : Int → Int) : List Int → Prop
  | [] => True
  | x :: r => g r.length = x ∧ f_stk g r
theorem f_stk_c {g g' : Int → Int} : ∀ (st : List Int), (∀ i, 0 ≤ i → i < (st.length : Int) → g' i = g i) → f_stk g st → f_stk g' st
  | [], _, _ => trivial
  | x :: r, h, hs => by
    have hl : ((x :: r).length : Int) = r.length + 1 := by simp
    refine ⟨?_, f_stk_c r (fun i h0 h1 => h i h0 (by omega)) hs.2⟩
    rw [h _ (by omega) (by omega)]
    exact hs.1
/-- a word of the reference's code -/
abbrev o_ok (op va : Int → Int) (k : Int) : Prop := (op k = 0 ∧ 0 ≤ va k ∧ va k ≤ 9999) ∨ (op k = 1 ∧ 0 ≤ va k ∧ va k < 10) ∨ (2 ≤ op k ∧ op k ≤ 5)
def m_c (op va : Int → Int) (k : Int) : Int := if op k = 0 then va k else if op k = 1 then 10000 + va k else 20004 + op k
def p205 (a : Nat) (k : Int) : Bool := a == 125 || (a == 104 && k == 31)
theorem s205 {op va vars : Int → Int} {fr to : Int} (h112 : I 112 = op) (h113 : I 113 = va) (h124 : I 124 = vars) (hb : 0 ≤ fr ∧ fr ≤ to ∧ to ≤ 500) (hok : ∀ k, fr ≤ k → k < to → o_ok op va k) (hf : f_ok (m_c op va) (to - fr).toNat fr 0) (hv : ∀ i, 0 ≤ i → i < 10 → w_in (vars i))
    (k1 : ∀ v, f_ev (m_c op va) vars (to - fr).toNat fr [] = some [v] → w_in v → ∀ I', w_fr p205 I I' → I' 104 31 = 0 → Q (some (w_i v)) I' J b)
    (k0 : f_ev (m_c op va) vars (to - fr).toNat fr [] = none → ∀ I', w_fr p205 I I' → I' 104 31 = 1 → Q (some (w_i 0)) I' J b) : w_C xs xl 205 [.ref 104, w_i fr, w_i to] I J b Q := by
  refine e205 (b205_0 ?_)
  generalize hR : f_ev (m_c op va) vars (to - fr).toNat fr [] = R at k1 k0
  have loop : ∀ (n : Nat) (l3 l4 : Int) (u1 u5 u6 u7 : Option Value) (I1 : w_I) (st : List Int), l4 + n = to → fr ≤ l4 → (st.length : Int) = l3 → w_fr p205 I I1 → I1 104 31 = 0 → f_stk (I1 125) st → (∀ x ∈ st, w_in x) → f_ok (m_c op va) n l4 st.length → st.length ≤ 20 →
      R = f_ev (m_c op va) vars n l4 st → w_T xs xl 205 10 [some (.ref 104), u1, some (w_i to), some (w_i l3), some (w_i l4), u5, u6, u7] [] [] I1 J b Q := by
    intro n
    induction n with
    | zero =>
      intro l3 l4 u1 u5 u6 u7 I1 st a0 a1 a2 a3 a4 a5 a6 a7 a9 a8
      have a7' : st.length = 1 := a7
      match st, a7' with
      | [v], _ =>
        have e0 : I1 125 0 = v := a5.1
        have hv := a6 v (by simp)
        have kk := k1 v a8 hv I1 a3 a4
        refine b205_10 ?_
        try simp only [w_Ug, reduceIte, Nat.reduceEqDiff, Int.reduceEq, eq_self, e0]
        repeat' (first | apply And.intro | intro)
        all_goals (try first | omega | contradiction)
    | succ n ih =>
      intro l3 l4 u1 u5 u6 u7 I1 st a0 a1 a2 a3 a4 a5 a6 a7 a9 a8
      have i112 : I1 112 = op := (w_frA a3 (fun _ => rfl)).trans h112
      have i113 : I1 113 = va := (w_frA a3 (fun _ => rfl)).trans h113
      have i124 : I1 124 = vars := (w_frA a3 (fun _ => rfl)).trans h124
      have ok := hok l4 a1 (by omega)
      have hlen : (st.length : Int) = l3 := a2
      unfold f_ok at a7
      unfold f_ev at a8
      by_cases c0 : op l4 = 0
      · have ec : m_c op va l4 = va l4 := by unfold m_c; rw [if_pos c0]
        rw [ec] at a7 a8
        rw [if_pos (by omega)] at a8
        have b0 : 0 ≤ va l4 ∧ va l4 ≤ 9999 := by omega
        have hd : st.length < 20 ∧ f_ok (m_c op va) n (l4 + 1) (st.length + 1) := by
          rcases a7 with x | x | x
          · exact ⟨x.2.2.1, x.2.2.2⟩
          · omega
          · omega
        have hd1 := hd.1
        refine b205_10 ?_
        try simp only [w_Ug, reduceIte, Nat.reduceEqDiff, Int.reduceEq, eq_self, i112, i113, i124]
        repeat' (first | apply And.intro | intro)
        all_goals (try first | omega | contradiction)
        refine ih (l3 + 1) (l4 + 1) _ _ _ _ _ (va l4 :: st) (by omega) (by omega) (by simp; omega) (w_frU a3 rfl) a4 ?_ ?_ hd.2 (by simp; omega) a8
        · refine ⟨?_, f_stk_c st (fun i x y => ?_) a5⟩
          · rw [w_Ug, if_pos rfl, if_pos (by omega)]
          · rw [w_Ug, if_pos rfl, if_neg (by omega)]
        · intro x hx
          rcases List.mem_cons.mp hx with e | e
          · subst e; omega
          · exact a6 x e
      · by_cases c1 : op l4 = 1
        · have ec : m_c op va l4 = 10000 + va l4 := by unfold m_c; rw [if_neg c0, if_pos c1]
          rw [ec] at a7 a8
          rw [if_neg (by omega), if_pos (by omega), show 10000 + va l4 - 10000 = va l4 by omega] at a8
          have b0 : 0 ≤ va l4 ∧ va l4 < 10 := by omega
          have hd : st.length < 20 ∧ f_ok (m_c op va) n (l4 + 1) (st.length + 1) := by
            rcases a7 with x | x | x
            · omega
            · exact ⟨x.2.2.1, x.2.2.2⟩
            · omega
          have hd1 := hd.1
          have hvv := hv (va l4) b0.1 b0.2
          refine b205_10 ?_
          try simp only [w_Ug, reduceIte, Nat.reduceEqDiff, Int.reduceEq, eq_self, i112, i113, i124]
          repeat' (first | apply And.intro | intro)
          all_goals (try first | omega | contradiction)
          refine ih (l3 + 1) (l4 + 1) _ _ _ _ _ (vars (va l4) :: st) (by omega) (by omega) (by simp; omega) (w_frU a3 rfl) a4 ?_ ?_ hd.2 (by simp; omega) a8
          · refine ⟨?_, f_stk_c st (fun i x y => ?_) a5⟩
            · rw [w_Ug, if_pos rfl, if_pos (by omega)]
            · rw [w_Ug, if_pos rfl, if_neg (by omega)]
          · intro x hx
            rcases List.mem_cons.mp hx with e | e
            · subst e; exact hvv
            · exact a6 x e
        · have ec : m_c op va l4 = 20004 + op l4 := by unfold m_c; rw [if_neg c0, if_neg c1]
          rw [ec] at a7 a8
          rw [if_neg (by omega), if_neg (by omega)] at a8
          have hd : 2 ≤ st.length ∧ f_ok (m_c op va) n (l4 + 1) (st.length - 1) := by
            rcases a7 with x | x | x
            · omega
            · omega
            · exact ⟨x.2.2.1, x.2.2.2⟩
          match st, hd with
          | yy :: xx :: r, hd =>
            have l3e : l3 = r.length + 2 := by simp at hlen; omega
            have ey : I1 125 (l3 - 1) = yy := by
              have := a5.1
              rw [show (((xx :: r).length : Nat) : Int) = l3 - 1 by simp; omega] at this
              exact this
            have ex : I1 125 (l3 - 2) = xx := by
              have := a5.2.1
              rw [show ((r.length : Nat) : Int) = l3 - 2 by omega] at this
              exact this
            have hy := a6 yy (by simp)
            have hx := a6 xx (by simp)
            have hr : r.length ≤ 480 := by
              simp at a9
              omega
            have fin : ∀ (v : Int) (u1 u5 u6 u7 : Option Value), f_bin (20004 + op l4) xx yy = w_w v → ¬ (20004 + op l4 = 20009 ∧ yy = 0) → w_T xs xl 205 10 [some (.ref 104), u1, some (w_i to), some (w_i (l3 + -1)), some (w_i (l4 + 1)), u5, u6, u7] [] [] (w_U I1 125 (l3 + -1 - 1) v) J b Q := by
              intro v u1 u5 u6 u7 hv hnz
              refine w_Th w_hw ?_
              rw [← hv]
              dsimp only at a8
              rw [if_neg hnz] at a8
              refine ih (l3 + -1) (l4 + 1) u1 u5 u6 u7 _ (f_bin (20004 + op l4) xx yy :: r) (by omega) (by omega) (by simp; omega) (w_frU a3 rfl) a4 ?_ ?_ (by simpa using hd.2) (by simp at a9 ⊢; omega) a8
              · refine ⟨?_, f_stk_c r (fun i x y => ?_) a5.2.2⟩
                · rw [w_Ug, if_pos rfl, if_pos (by omega)]
                · rw [w_Ug, if_pos rfl, if_neg (by omega)]
              · intro x hxx
                rcases List.mem_cons.mp hxx with e | e
                · subst e; unfold f_bin; exact w_wi _
                · exact a6 x (by simp [e])
            by_cases cz : op l4 = 5 ∧ yy = 0
            · dsimp only at a8
              rw [if_pos (by omega)] at a8
              have kk := k0 a8
              have cz1 := cz.1
              have cz2 := cz.2
              refine b205_10 ?_
              try simp only [w_Ug, reduceIte, Nat.reduceEqDiff, Int.reduceEq, eq_self, i112, i113, i124, ey, ex]
              repeat' (first | apply And.intro | intro)
              all_goals (try first | omega | contradiction)
              all_goals exact kk _ (w_frU a3 rfl) (by rw [w_Ug, if_pos rfl, if_pos rfl])
            · refine b205_10 ?_
              try simp only [w_Ug, reduceIte, Nat.reduceEqDiff, Int.reduceEq, eq_self, i112, i113, i124, ey, ex]
              repeat' (first | apply And.intro | intro)
              all_goals (try first | omega | contradiction)
              all_goals refine fin _ _ _ _ _ ?_ (by omega)
              all_goals unfold f_bin
              all_goals congr 1
              all_goals simp (disch := omega) only [if_neg, if_pos, if_true]
  exact loop (to - fr).toNat 0 fr _ _ _ _ _ [] (by omega) (Int.le_refl _) rfl (w_frU w_frr rfl) (by rw [w_Ug, if_pos rfl, if_pos rfl]) trivial (by simp) hf (by simp) hR.symm
end
