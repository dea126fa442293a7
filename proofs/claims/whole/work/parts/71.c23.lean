section
/-! calls of the class: steps, mean, where, gap -/
variable {xs : Nat → Int32} {xl : Nat} {I J : w_I} {b : Bool} {Q : Option Value → w_I → w_I → Bool → Prop}
variable {s : Int → Int}
def p89 (a : Nat) (k : Int) : Bool := a == 91 || a == 92 || (a == 89 && (k == 4 || k == 5))
theorem p89_K {I I' : w_I} (h : w_fr p89 I I') : w_fr pK I I' := w_frm h (fun a k e => by
  simp only [pK, p89, Bool.or_eq_false_iff, Bool.and_eq_false_iff, beq_eq_false_iff_ne, ne_eq, ble_f] at e ⊢
  omega)
theorem p60_89 {I I' : w_I} (h : w_fr p60 I I') : w_fr p89 I I' := w_frm h (fun a k e => by
  simp only [p60, p89, Bool.or_eq_false_iff, Bool.and_eq_false_iff, beq_eq_false_iff_ne, ne_eq] at e ⊢
  omega)
theorem p62_89 {I I' : w_I} (h : w_fr p62 I I') : w_fr p89 I I' := w_frm h (fun a k e => by
  simp only [p62, p89, Bool.or_eq_false_iff, Bool.and_eq_false_iff, beq_eq_false_iff_ne, ne_eq] at e ⊢
  omega)
/-- what prepare leaves -/
def c_nw (I : w_I) (F : m_F) (s : Int → Int) (n : Int) (r : Int → Int) : Prop := I 78 6 = n ∧ (∀ i, 0 ≤ i → i < n → I 84 i = r i) ∧ (∀ p, 0 ≤ p → p ≤ n → I 90 p = m_wt F s n r p 100)
theorem c_nw_fr {F : m_F} {n : Int} {r : Int → Int} {I' : w_I} (h : w_fr p89 I I') (nw : c_nw I F s n r) : c_nw I' F s n r := by
  unfold c_nw
  rw [h 78 6 rfl, w_frA (a := 84) h (fun _ => rfl), w_frA (a := 90) h (fun _ => rfl)]
  exact nw
/-- the row's houses -/
theorem m_row_h (wf : m_wf s) {n : Int} {r : Int → Int} {rk : Int → Int} (hr : r_ok n r (m_S s (-1)) rk) {i : Int} (h0 : 0 ≤ i) (h1 : i < n) : m_isF s (r i) ∧ 0 ≤ s (460 + 3 * r i + 1) ∧ m_hm s (r i) = s (460 + 3 * r i + 1) ∧ m_hm s (r i) < s 0 := by
  rcases hr.2.1 i h0 h1 with z | z
  · have w3 := wf.1.2.2.2.1 _ z.1.1 z.1.2.1
    have e : m_hm s (r i) = s (460 + 3 * r i + 1) := by unfold m_hm; rw [if_neg (by omega)]
    exact ⟨z.1, z.2, e, by omega⟩
  · exact absurd rfl z.2
theorem c60r {fr by' n : Int} {r : Int → Int} {rk : Int → Int} (rf : c_rf 20 I s) (wf : m_wf s) (hr : r_ok n r (m_S s (-1)) rk) (hf : w_in fr) (hn : I 78 6 = n) (h84 : ∀ i, 0 ≤ i → i < n → I 84 i = r i)
    (k : ∀ I', w_fr p60 I I' → (∀ i, 0 ≤ i → i < n → I' 91 i = l_sp fr by' (m_hm s (r i))) → Q none I' J b) : w_C xs xl 60 [.ref 89, w_i fr, w_i by'] I J b Q := by
  have w0 := wf.1.1
  have nb := m_row_b wf hr
  have n0 := hr.1
  refine c60 (r := r) (hm := fun i => m_hm s (r i)) hf hn (by omega) (fun i x y => ?_) (fun i x y => ?_) k
  · have rh := m_row_h wf hr x y
    have := rh.1.1
    have := rh.1.2.1
    exact ⟨h84 i x y, by omega, by omega⟩
  · have rh := m_row_h wf hr x y
    refine ⟨c_hm rf wf rh.1, ?_⟩
    try dsimp only
    omega
theorem l_sp_b {fr by' h : Int} (hb : -1 ≤ by' ∧ by' ≤ 1) (hh : -100 ≤ h ∧ h ≤ 100) : -1000 ≤ l_sp fr by' h ∧ l_sp fr by' h ≤ 1000 := by
  unfold l_sp
  split <;> omega
theorem c61r {F : m_F} {fr by' n H : Int} {r : Int → Int} {rk : Int → Int} (wf : m_wf s) (hr : r_ok n r (m_S s (-1)) rk) (nw : c_nw I F s n r) (hH : -1 ≤ H ∧ H ≤ 25) (hb : -1 ≤ by' ∧ by' ≤ 1) (h91 : ∀ i, 0 ≤ i → i < n → I 91 i = l_sp fr by' (m_hm s (r i)))
    (k : ∀ I', w_fr p62 I I' → Q (some (w_i (m_mean F s n r H fr by'))) I' J b) : w_C xs xl 61 [.ref 89, w_i H] I J b Q := by
  have w0 := wf.1.1
  have nb := m_row_b wf hr
  have n0 := hr.1
  refine c61 nw.1 (by omega) hH nw.2.2 (fun i x y => ?_) k
  have rh := m_row_h wf hr x y
  have e := h91 i x y
  have := l_sp_b (fr := fr) (h := m_hm s (r i)) hb (by omega)
  rw [e]
  exact ⟨rfl, this.1, this.2⟩
theorem c57 {F : m_F} {n : Int} {r : Int → Int} {rk : Int → Int} (rf : c_rf 20 I s) (rt : c_rt I s) (wf : m_wf s) (hr : r_ok n r (m_S s (-1)) rk) (nw : c_nw I F s n r)
    (k : ∀ I', w_fr p89 I I' → Q (some (w_i (m_mean F s n r (s 0) (-1) 0))) I' J b) : w_C xs xl 57 [.ref 89] I J b Q := by
  have w0 := wf.1.1
  refine e57 (b57_0 ?_)
  refine c60r rf wf hr (by decide) nw.1 nw.2.1 (fun I1 fr1 h1 => b57_6 ?_)
  have t5 : I1 2 5 = s 0 := by rw [w_frA fr1 (fun _ => rfl)]; exact rt.1
  rw [t5]
  exact c61r wf hr (c_nw_fr (p60_89 fr1) nw) (by omega) (by decide) h1 (fun I2 fr2 => b57_20 (k I2 (w_frt (p60_89 fr1) (p62_89 fr2))))
def m_wh (v : Int → Int) : Nat → Int × Int
  | 0 => (-1, 0)
  | p + 1 => if (m_wh v p).1 < 0 ∨ v p < (m_wh v p).2 then ((p : Int), v p) else m_wh v p
theorem m_wh_s {v : Int → Int} {p : Nat} : m_wh v (p + 1) = if (m_wh v p).1 < 0 ∨ v p < (m_wh v p).2 then ((p : Int), v p) else m_wh v p := rfl
theorem m_wh_b {v : Int → Int} (hv : ∀ p, 0 ≤ v p ∧ v p ≤ 21600) : ∀ p : Nat, -1 ≤ (m_wh v p).1 ∧ (m_wh v p).1 < p ∧ 0 ≤ (m_wh v p).2 ∧ (m_wh v p).2 ≤ 21600 ∧ (0 < p → 0 ≤ (m_wh v p).1)
  | 0 => by
    show -1 ≤ (-1 : Int) ∧ (-1 : Int) < ((0 : Nat) : Int) ∧ 0 ≤ (0 : Int) ∧ (0 : Int) ≤ 21600 ∧ (0 < 0 → 0 ≤ (-1 : Int))
    omega
  | p + 1 => by
    have ih := m_wh_b hv p
    have := hv p
    rw [m_wh_s]
    split
    · try dsimp only
      omega
    · rename_i c
      omega
theorem c58 {F : m_F} {n : Int} {r : Int → Int} {rk : Int → Int} (rf : c_rf 20 I s) (rt : c_rt I s) (wf : m_wf s) (hr : r_ok n r (m_S s (-1)) rk) (nw : c_nw I F s n r)
    (k : ∀ I', w_fr p89 I I' → I' 89 4 = (m_wh (fun p => m_mean F s n r (s 0 + 1) p 1) (s 0 + 1).toNat).1 → I' 89 5 = (m_wh (fun p => m_mean F s n r (s 0 + 1) p 1) (s 0 + 1).toNat).2 → Q none I' J b) : w_C xs xl 58 [.ref 89] I J b Q := by
  have w0 := wf.1.1
  have nb := m_row_b wf hr
  have n0 := hr.1
  have vb := fun p => m_mean_b (s := s) (F := F) (n := n) (H := s 0 + 1) (fr := p) (by' := 1) (r := r) (by omega)
  generalize hv : (fun p => m_mean F s n r (s 0 + 1) p 1) = v at k
  have vb : ∀ p, 0 ≤ v p ∧ v p ≤ 21600 := fun p => by rw [← hv]; exact vb p
  have ve : ∀ p, m_mean F s n r (s 0 + 1) p 1 = v p := fun p => by rw [← hv]
  have wb := m_wh_b vb
  refine e58 (b58_0 ?_)
  have loop : ∀ (m p : Nat) (l1 : Int) (u2 : Option Value) (I1 : w_I), (p : Int) + m = s 0 + 1 → l1 = p → w_fr p89 I I1 → I1 89 4 = (m_wh v p).1 → (0 < p → I1 89 5 = (m_wh v p).2) → w_T xs xl 58 7 [some (.ref 89), some (w_i l1), u2] [] [] I1 J b Q := by
    intro m
    induction m with
    | zero =>
      intro p l1 u2 I1 a0 a1 a2 a3 a4
      have t5 : I1 2 5 = s 0 := by rw [w_frA a2 (fun _ => rfl)]; exact rt.1
      have kk := k I1 a2
      rw [show (s 0 + 1).toNat = p by omega] at kk
      have kk := kk a3 (a4 (by omega))
      refine b58_7 ?_
      try simp only [w_Ug, reduceIte, Nat.reduceEqDiff, Int.reduceEq, eq_self, t5]
      repeat' (first | apply And.intro | intro)
      all_goals (try first | omega | contradiction | exact Or.inl trivial | exact Or.inr trivial)
    | succ m ih =>
      intro p l1 u2 I1 a0 a1 a2 a3 a4
      have t5 : I1 2 5 = s 0 := by rw [w_frA a2 (fun _ => rfl)]; exact rt.1
      have rf1 := pK_rf (p89_K a2) rf
      have nw1 := c_nw_fr a2 nw
      have wbp := wb p
      have vbp := vb l1
      refine b58_7 ?_
      try simp only [w_Ug, reduceIte, Nat.reduceEqDiff, Int.reduceEq, eq_self, t5]
      repeat' (first | apply And.intro | intro)
      all_goals (try first | omega | contradiction | exact Or.inl trivial | exact Or.inr trivial)
      refine c60r rf1 wf hr (by omega) nw1.1 nw1.2.1 (fun I2 fr2 h2 => b58_27 ?_)
      have t52 : I2 2 5 = s 0 := by rw [w_frA fr2 (fun _ => rfl)]; exact t5
      rw [t52]
      refine c61r wf hr (c_nw_fr (p60_89 fr2) nw1) (by omega) (by decide) h2 (fun I3 fr3 => ?_)
      rw [ve]
      have fr := w_frt a2 (w_frt (p60_89 fr2) (p62_89 fr3))
      have e4 : I3 89 4 = (m_wh v p).1 := by rw [w_frA fr3 (fun _ => rfl), w_frA fr2 (fun _ => rfl)]; exact a3
      have e5 : 0 < p → I3 89 5 = (m_wh v p).2 := fun h => by rw [w_frA fr3 (fun _ => rfl), w_frA fr2 (fun _ => rfl)]; exact a4 h
      have ws := m_wh_s (v := v) (p := p)
      rw [← a1] at ws
      by_cases c1 : (m_wh v p).1 < 0
      · rw [if_pos (Or.inl c1)] at ws
        refine b58_43 ?_
        try simp only [w_Ug, reduceIte, Nat.reduceEqDiff, Int.reduceEq, eq_self, e4]
        repeat' (first | apply And.intro | intro)
        all_goals (try first | omega | contradiction | exact Or.inl trivial | exact Or.inr trivial)
        refine ih (p + 1) (l1 + 1) _ _ (by omega) (by omega) (w_frU (w_frU fr rfl) rfl) ?_ (fun _ => ?_)
        · rw [ws]; simp only [w_Ug, reduceIte, Int.reduceEq]
        · rw [ws]; simp only [w_Ug, reduceIte]
      · have e5 := e5 (by omega)
        by_cases c2 : v l1 < (m_wh v p).2
        · rw [if_pos (Or.inr c2)] at ws
          refine b58_43 ?_
          try simp only [w_Ug, reduceIte, Nat.reduceEqDiff, Int.reduceEq, eq_self, e4, e5]
          repeat' (first | apply And.intro | intro)
          all_goals (try first | omega | contradiction | exact Or.inl trivial | exact Or.inr trivial)
          refine ih (p + 1) (l1 + 1) _ _ (by omega) (by omega) (w_frU (w_frU fr rfl) rfl) ?_ (fun _ => ?_)
          · rw [ws]; simp only [w_Ug, reduceIte, Int.reduceEq]
          · rw [ws]; simp only [w_Ug, reduceIte]
        · rw [if_neg (fun h => h.elim c1 c2)] at ws
          refine b58_43 ?_
          try simp only [w_Ug, reduceIte, Nat.reduceEqDiff, Int.reduceEq, eq_self, e4, e5]
          repeat' (first | apply And.intro | intro)
          all_goals (try first | omega | contradiction | exact Or.inl trivial | exact Or.inr trivial)
          exact ih (p + 1) (l1 + 1) _ I3 (by omega) (by omega) fr (by rw [ws]; exact e4) (fun _ => by rw [ws]; exact e5)
  exact loop (s 0 + 1).toNat 0 0 _ _ (by omega) rfl (w_frU w_frr rfl) (by rw [w_Ug, if_pos rfl, if_pos rfl]; rfl) (fun h => by omega)
def m_gp (s v : Int → Int) : Nat → Int × Int
  | 0 => (-1, 0)
  | h + 1 => if m_dw s h < 0 ∧ ((m_gp s v h).1 < 0 ∨ (m_gp s v h).2 < v h) then ((h : Int), v h) else m_gp s v h
theorem m_gp_s {v : Int → Int} {p : Nat} : m_gp s v (p + 1) = if m_dw s p < 0 ∧ ((m_gp s v p).1 < 0 ∨ (m_gp s v p).2 < v p) then ((p : Int), v p) else m_gp s v p := rfl
theorem m_gp_b {v : Int → Int} (hv : ∀ p, 0 ≤ v p ∧ v p ≤ 21600) : ∀ p : Nat, -1 ≤ (m_gp s v p).1 ∧ (m_gp s v p).1 < p ∧ 0 ≤ (m_gp s v p).2 ∧ (m_gp s v p).2 ≤ 21600
  | 0 => by
    show -1 ≤ (-1 : Int) ∧ (-1 : Int) < ((0 : Nat) : Int) ∧ 0 ≤ (0 : Int) ∧ (0 : Int) ≤ 21600
    omega
  | p + 1 => by
    have ih := m_gp_b hv p
    have := hv p
    rw [m_gp_s]
    split
    · try dsimp only
      omega
    · omega
theorem c59 {F : m_F} {n : Int} {r : Int → Int} {rk : Int → Int} (rf : c_rf 20 I s) (rt : c_rt I s) (wf : m_wf s) (hr : r_ok n r (m_S s (-1)) rk) (nw : c_nw I F s n r)
    (k : ∀ I', w_fr p89 I I' → I' 89 4 = (m_gp s (fun p => m_mean F s n r (s 0 - 1) p (-1)) (s 0).toNat).1 → Q none I' J b) : w_C xs xl 59 [.ref 89] I J b Q := by
  have w0 := wf.1.1
  have nb := m_row_b wf hr
  have n0 := hr.1
  have vb := fun p => m_mean_b (s := s) (F := F) (n := n) (H := s 0 - 1) (fr := p) (by' := -1) (r := r) (by omega)
  generalize hv : (fun p => m_mean F s n r (s 0 - 1) p (-1)) = v at k
  have vb : ∀ p, 0 ≤ v p ∧ v p ≤ 21600 := fun p => by rw [← hv]; exact vb p
  have ve : ∀ p, m_mean F s n r (s 0 - 1) p (-1) = v p := fun p => by rw [← hv]
  have wb := m_gp_b (s := s) vb
  have rf' := rf
  simp only [c_rf, Nat.reduceAdd] at rf'
  obtain ⟨-, -, -, -, -, -, rh, -⟩ := rf'
  refine e59 (b59_0 ?_)
  have loop : ∀ (m p : Nat) (l1 : Int) (u2 : Option Value) (I1 : w_I), (p : Int) + m = s 0 → l1 = p → w_fr p89 I I1 → I1 89 4 = (m_gp s v p).1 → (0 ≤ (m_gp s v p).1 → I1 89 5 = (m_gp s v p).2) → w_T xs xl 59 7 [some (.ref 89), some (w_i l1), u2] [] [] I1 J b Q := by
    intro m
    induction m with
    | zero =>
      intro p l1 u2 I1 a0 a1 a2 a3 a4
      have t5 : I1 2 5 = s 0 := by rw [w_frA a2 (fun _ => rfl)]; exact rt.1
      have kk := k I1 a2
      rw [show (s 0).toNat = p by omega] at kk
      have kk := kk a3
      refine b59_7 ?_
      try simp only [w_Ug, reduceIte, Nat.reduceEqDiff, Int.reduceEq, eq_self, t5]
      repeat' (first | apply And.intro | intro)
      all_goals (try first | omega | contradiction | exact Or.inl trivial | exact Or.inr trivial)
    | succ m ih =>
      intro p l1 u2 I1 a0 a1 a2 a3 a4
      have t5 : I1 2 5 = s 0 := by rw [w_frA a2 (fun _ => rfl)]; exact rt.1
      have rf1 := pK_rf (p89_K a2) rf
      have nw1 := c_nw_fr a2 nw
      have wbp := wb p
      have vbp := vb l1
      have rh := rh l1 (by omega) (by omega)
      have e30 : I1 30 = I 30 := w_frA a2 (fun _ => rfl)
      have ws := m_gp_s (s := s) (v := v) (p := p)
      rw [← a1] at ws
      by_cases xd : I 30 l1 = -1
      · have dw := m_dw_e (rh.1 xd)
        refine b59_7 ?_
        try simp only [w_Ug, reduceIte, Nat.reduceEqDiff, Int.reduceEq, eq_self, t5, e30, xd]
        repeat' (first | apply And.intro | intro)
        all_goals (try first | omega | contradiction | exact Or.inl trivial | exact Or.inr trivial)
        refine c60r rf1 wf hr (by omega) nw1.1 nw1.2.1 (fun I2 fr2 h2 => b59_43 ?_)
        have t52 : I2 2 5 = s 0 := by rw [w_frA fr2 (fun _ => rfl)]; exact t5
        rw [t52]
        refine c61r wf hr (c_nw_fr (p60_89 fr2) nw1) (by omega) (by decide) h2 (fun I3 fr3 => ?_)
        rw [ve]
        have fr := w_frt a2 (w_frt (p60_89 fr2) (p62_89 fr3))
        have e4 : I3 89 4 = (m_gp s v p).1 := by rw [w_frA fr3 (fun _ => rfl), w_frA fr2 (fun _ => rfl)]; exact a3
        have e5 : 0 ≤ (m_gp s v p).1 → I3 89 5 = (m_gp s v p).2 := fun h => by rw [w_frA fr3 (fun _ => rfl), w_frA fr2 (fun _ => rfl)]; exact a4 h
        by_cases c1 : (m_gp s v p).1 < 0
        · rw [if_pos ⟨by omega, Or.inl c1⟩] at ws
          refine b59_59 ?_
          try simp only [w_Ug, reduceIte, Nat.reduceEqDiff, Int.reduceEq, eq_self, e4]
          repeat' (first | apply And.intro | intro)
          all_goals (try first | omega | contradiction | exact Or.inl trivial | exact Or.inr trivial)
          refine ih (p + 1) (l1 + 1) _ _ (by omega) (by omega) (w_frU (w_frU fr rfl) rfl) ?_ (fun _ => ?_)
          · rw [ws]; simp only [w_Ug, reduceIte, Int.reduceEq]
          · rw [ws]; simp only [w_Ug, reduceIte]
        · have e5 := e5 (by omega)
          by_cases c2 : (m_gp s v p).2 < v l1
          · rw [if_pos ⟨by omega, Or.inr c2⟩] at ws
            refine b59_59 ?_
            try simp only [w_Ug, reduceIte, Nat.reduceEqDiff, Int.reduceEq, eq_self, e4, e5]
            repeat' (first | apply And.intro | intro)
            all_goals (try first | omega | contradiction | exact Or.inl trivial | exact Or.inr trivial)
            refine ih (p + 1) (l1 + 1) _ _ (by omega) (by omega) (w_frU (w_frU fr rfl) rfl) ?_ (fun _ => ?_)
            · rw [ws]; simp only [w_Ug, reduceIte, Int.reduceEq]
            · rw [ws]; simp only [w_Ug, reduceIte]
          · rw [if_neg (fun h => h.2.elim c1 c2)] at ws
            refine b59_59 ?_
            try simp only [w_Ug, reduceIte, Nat.reduceEqDiff, Int.reduceEq, eq_self, e4, e5]
            repeat' (first | apply And.intro | intro)
            all_goals (try first | omega | contradiction | exact Or.inl trivial | exact Or.inr trivial)
            exact ih (p + 1) (l1 + 1) _ I3 (by omega) (by omega) fr (by rw [ws]; exact e4) (fun _ => by rw [ws]; exact e5)
      · obtain ⟨q1, q2⟩ := rh.2 xd
        have dw := m_dw_f wf q1 q2 (by omega)
        have q11 := q1.1
        have q12 := q1.2.1
        rw [if_neg (fun h => by have := h.1; omega)] at ws
        refine b59_7 ?_
        try simp only [w_Ug, reduceIte, Nat.reduceEqDiff, Int.reduceEq, eq_self, t5, e30]
        repeat' (first | apply And.intro | intro)
        all_goals (try first | omega | contradiction | exact Or.inl trivial | exact Or.inr trivial)
        exact ih (p + 1) (l1 + 1) _ I1 (by omega) (by omega) a2 (by rw [ws]; exact a3) (by rw [ws]; exact a4)
  exact loop (s 0).toNat 0 0 _ _ (by omega) rfl (w_frU w_frr rfl) (by rw [w_Ug, if_pos rfl, if_pos rfl]; rfl) (fun h => absurd h (by show ¬ 0 ≤ (-1 : Int); omega))
/-- how many move anew at a step -/
def m_anw (s : Int → Int) (n : Int) (r : Int → Int) : Int := n - l_w (fun i => m_hm s (r i) - i) (s 0 - n) n.toNat 0 0
theorem c55 {st : Int} (rf : c_rf 20 I s) (rt : c_rt I s) (wf : m_wf s) (hst : 1 ≤ st ∧ st ≤ 20)
    (k : ∀ n r, r_ok n r (m_S s (-1)) (m_rk s (m_kf s st)) → ∀ I', w_fr pK I I' → Q (some (w_i (m_anw s n r))) I' J b) : w_C xs xl 55 [.ref 89, w_i st] I J b Q := by
  have w := wf.1
  have w0 := w.1
  refine e55 (b55_0 ?_)
  rw [rt.2.2.2.2.1]
  refine c22 rf wf (by omega) (by decide) hst (fun I1 g1 ag1 => b55_19 ?_)
  have fr1 := pA_fr g1
  have rf1 := pA_rf fr1 rf
  have rt1 := pA_rt fr1 rt
  refine c23 (c := -1) (kf := m_kf s st) rf1 rt1 wf (fun g x y => ⟨(ag1 g x y).2, by
    have := m_kf_b w (st := st) (g := g) hst.1
    omega⟩) (Or.inl rfl) (fun n I2 fr2 n2 nb r2 => b55_27 ?_)
  have n0 := r2.1
  have nb := m_row_b wf r2
  have frZ := pZ_K (w_frt (pA_Z fr1) (p24_Z fr2))
  have rf2 := pK_rf frZ rf
  refine c60r (r := I2 84) rf2 wf r2 (by decide) n2 (fun _ _ _ => rfl) (fun I3 fr3 h3 => b55_33 ?_)
  have k := k n (I2 84) r2
  have rh := fun i x y => m_row_h wf r2 (i := i) x y
  generalize I2 84 = r at *
  have fr := w_frt frZ (p60_K fr3)
  have n3 : I3 78 6 = n := by rw [fr3 78 6 rfl]; exact n2
  have t5 : I3 2 5 = s 0 := (pK_rt fr rt).1
  rw [n3, t5]
  refine c62 (sp := fun i => m_hm s (r i)) (by omega) (Or.inl rfl) (by omega) n3 (by omega) (fun i x y => ?_) (fun I4 fr4 => b55_63 ?_)
  · have := rh i x y
    have e := h3 i x y
    unfold l_sp at e
    rw [if_pos (by omega)] at e
    exact ⟨by omega, by omega, by omega⟩
  · have k := k I4 (w_frt fr (p62_K fr4))
    have e : l_w (l_x (fun i => m_hm s (r i)) n 0) (s 0 - n) n.toNat 0 0 = l_w (fun i => m_hm s (r i) - i) (s 0 - n) n.toNat 0 0 := by
      refine l_w_c _ _ _ (fun j x y => ?_)
      unfold l_x
      rw [if_pos (by omega)]
    rw [e]
    exact k
theorem c138 {st : Int} (rf : c_rf 20 I s) (rt : c_rt I s) (wf : m_wf s) (hs : w_in st) (kN : ¬ (1 ≤ st ∧ st ≤ 20) → Q (some (w_i (-1))) I J b) (k0 : 1 ≤ st ∧ st ≤ 20 → m_tt s → Q (some (w_i (-2))) I J b)
    (k : 1 ≤ st ∧ st ≤ 20 → ¬ m_tt s → ∀ n r, r_ok n r (m_S s (-1)) (m_rk s (m_kf s st)) → ∀ I', w_fr pK I I' → Q (some (w_i (m_anw s n r))) I' J b) : w_C xs xl 138 [.ref 0, w_i st] I J b Q := by
  refine e138 ?_
  by_cases h : 1 ≤ st ∧ st ≤ 20
  · refine b138_0 ?_
    try simp only [w_Ug, reduceIte, Nat.reduceEqDiff, Int.reduceEq, eq_self, if_true]
    repeat' (first | apply And.intro | intro)
    all_goals (try first | omega | contradiction | exact Or.inl trivial | exact Or.inr trivial)
    refine c104 rt wf.1 (fun ht => ?_) (fun ht => ?_)
    · have kk := k0 h ht
      refine b138_20 ?_
      try simp only [w_Ug, reduceIte, Nat.reduceEqDiff, Int.reduceEq, eq_self, if_true]
      repeat' (first | apply And.intro | intro)
      all_goals (try first | omega | contradiction | exact Or.inl trivial | exact Or.inr trivial)
    · refine b138_20 ?_
      try simp only [w_Ug, reduceIte, Nat.reduceEqDiff, Int.reduceEq, eq_self, if_true]
      repeat' (first | apply And.intro | intro)
      all_goals (try first | omega | contradiction | exact Or.inl trivial | exact Or.inr trivial)
      exact c55 rf rt wf h (fun n r hr I1 fr1 => b138_36 (k h ht n r hr I1 fr1))
  · have kk := kN h
    refine b138_0 ?_
    try simp only [w_Ug, reduceIte, Nat.reduceEqDiff, Int.reduceEq, eq_self, if_true]
    repeat' (first | apply And.intro | intro)
    all_goals (try first | omega | contradiction | exact Or.inl trivial | exact Or.inr trivial)
theorem c139 {F : m_F} (rf : c_rf 20 I s) (rt : c_rt I s) (wf : m_wf s) (cd : c_cd (I 5) (I 6) (I 7) F s) (k0 : m_tt s → Q (some (w_i (-2))) I J b)
    (k : ¬ m_tt s → ∀ n r, r_ok n r (m_S s (-1)) (m_rk s (m_kf s (s 1))) → ∀ I', w_fr pK I I' → Q (some (w_i (m_mean F s n r (s 0) (-1) 0))) I' J b) : w_C xs xl 139 [.ref 0] I J b Q := by
  refine e139 (b139_0 ?_)
  refine c104 rt wf.1 (fun ht => ?_) (fun ht => ?_)
  · have kk := k0 ht
    refine b139_7 ?_
    try simp only [w_Ug, reduceIte, Nat.reduceEqDiff, Int.reduceEq, eq_self, if_true]
    repeat' (first | apply And.intro | intro)
    all_goals (try first | omega | contradiction | exact Or.inl trivial | exact Or.inr trivial)
  · refine b139_7 ?_
    try simp only [w_Ug, reduceIte, Nat.reduceEqDiff, Int.reduceEq, eq_self, if_true]
    repeat' (first | apply And.intro | intro)
    all_goals (try first | omega | contradiction | exact Or.inl trivial | exact Or.inr trivial)
    refine c56 rf rt wf cd (fun n r I1 hr fr1 e1 e2 e3 => b139_20 ?_)
    exact c57 (pK_rf fr1 rf) (pK_rt fr1 rt) wf hr ⟨e1, e2, e3⟩ (fun I2 fr2 => b139_27 (k ht n r hr I2 (w_frt fr1 (p89_K fr2))))
theorem c140 {F : m_F} {l : Int} (rf : c_rf 20 I s) (rt : c_rt I s) (wf : m_wf s) (cd : c_cd (I 5) (I 6) (I 7) F s) (hl : w_in l) (k0 : m_tt s ∨ s 0 = 24 → Q (some (w_i (-2))) I J b)
    (k : ¬ (m_tt s ∨ s 0 = 24) → ∀ n r, r_ok n r (m_S s (-1)) (m_rk s (m_kf s (s 1))) → ∀ I', w_fr pK I I' → Q (some (w_i (if l = 0 then (m_wh (fun p => m_mean F s n r (s 0 + 1) p 1) (s 0 + 1).toNat).2 else (m_wh (fun p => m_mean F s n r (s 0 + 1) p 1) (s 0 + 1).toNat).1))) I' J b) : w_C xs xl 140 [.ref 0, w_i l] I J b Q := by
  have w0 := wf.1.1
  have t5 := rt.1
  refine e140 (b140_0 ?_)
  refine c104 rt wf.1 (fun ht => ?_) (fun ht => ?_)
  · have kk := k0 (Or.inl ht)
    refine b140_7 ?_
    try simp only [w_Ug, reduceIte, Nat.reduceEqDiff, Int.reduceEq, eq_self, if_true]
    repeat' (first | apply And.intro | intro)
    all_goals (try first | omega | contradiction | exact Or.inl trivial | exact Or.inr trivial)
  · by_cases h : s 0 = 24
    · have kk := k0 (Or.inr h)
      refine b140_7 ?_
      try simp only [w_Ug, reduceIte, Nat.reduceEqDiff, Int.reduceEq, eq_self, t5]
      repeat' (first | apply And.intro | intro)
      all_goals (try first | omega | contradiction | exact Or.inl trivial | exact Or.inr trivial)
    · refine b140_7 ?_
      try simp only [w_Ug, reduceIte, Nat.reduceEqDiff, Int.reduceEq, eq_self, t5]
      repeat' (first | apply And.intro | intro)
      all_goals (try first | omega | contradiction | exact Or.inl trivial | exact Or.inr trivial)
      refine c56 rf rt wf cd (fun n r I1 hr fr1 e1 e2 e3 => b140_32 ?_)
      refine c58 (pK_rf fr1 rf) (pK_rt fr1 rt) wf hr ⟨e1, e2, e3⟩ (fun I2 fr2 x1 x2 => ?_)
      have k := k (fun x => x.elim ht h) n r hr I2 (w_frt fr1 (p89_K fr2))
      refine b140_39 ?_
      try simp only [w_Ug, reduceIte, Nat.reduceEqDiff, Int.reduceEq, eq_self, x1, x2]
      repeat' (first | apply And.intro | intro)
      all_goals (try first | omega | contradiction | exact Or.inl trivial | exact Or.inr trivial)
      · rename_i c
        rw [if_pos c] at k; exact k
      · rename_i c
        rw [if_neg c] at k; exact k
theorem c141 {F : m_F} (rf : c_rf 20 I s) (rt : c_rt I s) (wf : m_wf s) (cd : c_cd (I 5) (I 6) (I 7) F s) (k0 : m_tt s → Q (some (w_i (-2))) I J b)
    (k : ¬ m_tt s → ∀ n r, r_ok n r (m_S s (-1)) (m_rk s (m_kf s (s 1))) → ∀ I', w_fr pK I I' → Q (some (w_i (if (m_gp s (fun p => m_mean F s n r (s 0 - 1) p (-1)) (s 0).toNat).1 < 0 then -2 else (m_gp s (fun p => m_mean F s n r (s 0 - 1) p (-1)) (s 0).toNat).1))) I' J b) : w_C xs xl 141 [.ref 0] I J b Q := by
  have w0 := wf.1.1
  refine e141 (b141_0 ?_)
  refine c104 rt wf.1 (fun ht => ?_) (fun ht => ?_)
  · have kk := k0 ht
    refine b141_7 ?_
    try simp only [w_Ug, reduceIte, Nat.reduceEqDiff, Int.reduceEq, eq_self, if_true]
    repeat' (first | apply And.intro | intro)
    all_goals (try first | omega | contradiction | exact Or.inl trivial | exact Or.inr trivial)
  · refine b141_7 ?_
    try simp only [w_Ug, reduceIte, Nat.reduceEqDiff, Int.reduceEq, eq_self, if_true]
    repeat' (first | apply And.intro | intro)
    all_goals (try first | omega | contradiction | exact Or.inl trivial | exact Or.inr trivial)
    refine c56 rf rt wf cd (fun n r I1 hr fr1 e1 e2 e3 => b141_20 ?_)
    refine c59 (pK_rf fr1 rf) (pK_rt fr1 rt) wf hr ⟨e1, e2, e3⟩ (fun I2 fr2 x1 => b141_27 ?_)
    have k := k ht n r hr I2 (w_frt fr1 (p89_K fr2))
    have nb := m_row_b wf hr
    have n0 := hr.1
    have gb := m_gp_b (s := s) (v := fun p => m_mean F s n r (s 0 - 1) p (-1)) (fun p => m_mean_b (by omega)) (s 0).toNat
    rw [x1]
    refine c162 (by omega) (fun v y1 y2 => b141_37 ?_)
    by_cases c : (m_gp s (fun p => m_mean F s n r (s 0 - 1) p (-1)) (s 0).toNat).1 < 0
    · rw [if_pos c] at k
      rw [y1 (by omega)]; exact k
    · rw [if_neg c] at k
      rw [y2 (by omega)]; exact k
end
