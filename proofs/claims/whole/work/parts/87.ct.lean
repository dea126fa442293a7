section
/-! part: the class lines the tops up -/
variable {xs : Nat → Int32} {xl : Nat} {I J : w_I} {b : Bool} {Q : Option Value → w_I → w_I → Bool → Prop}
variable {s : Int → Int}
/-- the row that stands in the class -/
def c_or (I : w_I) (s : Int → Int) (n : Int) (o : Int → Int) (S : Int → Prop) : Prop := I 93 5 = n ∧ r_ok n o S (a_rk s) ∧ ∀ q, 0 ≤ q → q < n → I 94 q = m_dw s (o q)
def p109 (a : Nat) (k : Int) : Bool := a == 94 || (a == 93 && k == 5)
theorem c109 {n h : Int} {o : Int → Int} {S : Int → Prop} (w : m_w0 s) (hn : n < 12) (ho : c_or I s n o S) (hS : ∀ x, S x → (0 ≤ x ∧ x < h) ∧ (0 ≤ m_dw s x ∧ m_dw s x < 30)) (hh : 0 ≤ h ∧ h < 24) (hd : 0 ≤ m_dw s h ∧ m_dw s h < 30) (hk : ∀ x, S x ∨ x = h → I 83 (m_dw s x) = m_kf s (s 1) (m_dw s x))
    (k : ∀ I' o', w_fr p109 I I' → c_or I' s (n + 1) o' (fun x => S x ∨ x = h) → Q none I' J b) : w_C xs xl 109 [.ref 93, w_i (m_dw s h)] I J b Q := by
  have w0 := w.1
  obtain ⟨o1, o2, o3⟩ := ho
  have h0 := o2.1
  have kb : ∀ x, 0 ≤ m_kf s (s 1) x ∧ m_kf s (s 1) x ≤ 199 := fun x => m_kf_b w (st := s 1) (g := x) (by omega)
  refine e109 (b109_0 ?_)
  rw [o1]
  have loop : ∀ (m : Nat) (p : Int) (I1 : w_I), p = m → p ≤ n → w_fr p109 I I1 → I1 93 5 = n → (∀ i, 0 ≤ i → i < p → I1 94 i = I 94 i) → (∀ i, p < i → i ≤ n → I1 94 i = I 94 (i - 1)) → (∀ i, p ≤ i → i < n → m_kf s (s 1) (m_dw s h) < m_kf s (s 1) (m_dw s (o i))) →
      w_T xs xl 109 5 [some (.ref 93), some (w_i (m_dw s h)), some (w_i p)] [] [] I1 J b Q := by
    intro m
    have fin : ∀ (p : Int) (I1 : w_I), 0 ≤ p → p ≤ n → w_fr p109 I I1 → I1 93 5 = n → (∀ i, 0 ≤ i → i < p → I1 94 i = I 94 i) → (∀ i, p < i → i ≤ n → I1 94 i = I 94 (i - 1)) → (∀ i, p ≤ i → i < n → m_kf s (s 1) (m_dw s h) < m_kf s (s 1) (m_dw s (o i))) → (∀ i, 0 ≤ i → i < p → m_kf s (s 1) (m_dw s (o i)) ≤ m_kf s (s 1) (m_dw s h)) → Q none (w_U (w_U I1 94 p (m_dw s h)) 93 5 (n + 1)) J b := by
      intro p I1 hp0 a1 a2 a3 a4 a5 a6 a7
      refine k _ (r_insf p h o) (w_frU (w_frU a2 rfl) rfl) ⟨by rw [w_Ug, if_pos rfl, if_pos rfl], r_ins o2 (p := p) (x := h) ⟨hp0, a1⟩ (fun i x y => ?_) (fun i x y => ?_), fun q x y => ?_⟩
      · have := a7 i x y
        have := (hS _ (o2.2.1 i x (by omega))).1
        unfold a_rk
        omega
      · have := a6 i x y
        have := (hS _ (o2.2.1 i (by omega) y)).1
        unfold a_rk
        omega
      · unfold r_insf
        simp only [w_Ug, reduceIte, Nat.reduceEqDiff]
        by_cases c1 : q < p
        · rw [if_neg (by omega), if_pos c1, a4 q x c1]; exact o3 q x (by omega)
        · by_cases c2 : q = p
          · rw [if_pos c2, if_neg c1, if_pos c2]
          · rw [if_neg c2, if_neg c1, if_neg c2, a5 q (by omega) (by omega)]; exact o3 (q - 1) (by omega) (by omega)
    induction m with
    | zero =>
      intro p I1 a0 a1 a2 a3 a4 a5 a6
      have ff := fin p I1 (by omega) a1 a2 a3 a4 a5 a6 (fun i x y => by omega)
      refine b109_5 ?_
      try simp only [w_Ug, reduceIte, Nat.reduceEqDiff, Int.reduceEq, eq_self, a3]
      repeat' (first | apply And.intro | intro)
      all_goals (try first | omega | contradiction | exact Or.inl trivial | exact Or.inr trivial)
    | succ m ih =>
      intro p I1 a0 a1 a2 a3 a4 a5 a6
      have e94 : I1 94 (p - 1) = m_dw s (o (p - 1)) := (a4 (p - 1) (by omega) (by omega)).trans (o3 (p - 1) (by omega) (by omega))
      have e83 : I1 83 = I 83 := w_frA a2 (fun _ => rfl)
      have inS := o2.2.1 (p - 1) (by omega) (by omega)
      have q1 := hS _ inS
      have q2 := hk _ (Or.inl inS)
      have q3 := hk h (Or.inr rfl)
      have kb1 := kb (m_dw s h)
      have kb2 := kb (m_dw s (o (p - 1)))
      refine b109_5 ?_
      try simp only [w_Ug, reduceIte, Nat.reduceEqDiff, Int.reduceEq, eq_self, a3, e94, e83, q2, q3]
      repeat' (first | apply And.intro | intro)
      all_goals (try first | omega | contradiction | exact Or.inl trivial | exact Or.inr trivial)
      · rename_i c
        refine fin p I1 (by omega) a1 a2 a3 a4 a5 a6 (fun i x y => ?_)
        by_cases e : i = p - 1
        · subst e; exact c
        · have := o2.2.2.2 i (p - 1) x (by omega) (by omega)
          have z1 := (hS _ (o2.2.1 i x (by omega))).1
          unfold a_rk at this
          omega
      · rename_i c
        refine ih (p + -1) _ (by omega) (by omega) (w_frU a2 rfl) a3 (fun i x y => ?_) (fun i x y => ?_) (fun i x y => ?_)
        · rw [w_Ug, if_pos rfl, if_neg (by omega)]; exact a4 i x (by omega)
        · rw [w_Ug, if_pos rfl]
          by_cases e : i = p
          · rw [if_pos e, e, o3 (p - 1) (by omega) (by omega)]
          · rw [if_neg e]; exact a5 i (by omega) y
        · by_cases e : i = p - 1
          · subst e; omega
          · exact a6 i (by omega) y
  exact loop n.toNat n I (by omega) (Int.le_refl _) w_frr o1 (fun _ _ _ => rfl) (fun i x y => by omega) (fun i x y => by omega)
def p108 (a : Nat) (k : Int) : Bool := a == 94 || a == 95 || a == 96 || a == 97 || (a == 93 && k == 5)
theorem p109_108 {I I' : w_I} (h : w_fr p109 I I') : w_fr p108 I I' := w_frm h (fun a k e => by
  simp only [p109, p108, Bool.or_eq_false_iff, Bool.and_eq_false_iff, beq_eq_false_iff_ne, ne_eq] at e ⊢
  omega)
theorem p108_K {I I' : w_I} (h : w_fr p108 I I') : w_fr pK I I' := w_frm h (fun a k e => by
  simp only [pK, p108, Bool.or_eq_false_iff, Bool.and_eq_false_iff, beq_eq_false_iff_ne, ne_eq, ble_f, decide_eq_false_iff_not] at e ⊢
  omega)
/-- levels and places up to house h -/
def c_lvl (I : w_I) (s : Int → Int) (h : Int) : Prop := (∀ sd, 0 ≤ sd → sd < 3 → I 97 sd = a_lv s sd h) ∧ ∀ x, 0 ≤ x → x < h → I 95 x = a_lv s (s (20 + x)) x ∧ I 96 x = a_ri s x
theorem c108 (rf : c_rf 20 I s) (rt : c_rt I s) (wf : m_wf s) (hk : ∀ f, 0 ≤ f → f < s 8 → I 83 f = m_kf s (s 1) f)
    (k1 : a_ri s (s 0) ≤ 12 → ∀ I' o, w_fr p108 I I' → c_or I' s (a_ri s (s 0)) o (a_S s) → c_lvl I' s (s 0) → Q (some (w_i 1)) I' J b)
    (k0 : 12 < a_ri s (s 0) → ∀ I', w_fr p108 I I' → Q (some (w_i 0)) I' J b) : w_C xs xl 108 [.ref 93] I J b Q := by
  have w := wf.1
  have w0 := w.1
  have rf' := rf
  simp only [c_rf, Nat.reduceAdd] at rf'
  obtain ⟨-, -, -, -, -, -, rh, -⟩ := rf'
  have dw : ∀ h, 0 ≤ h → h < 24 → (I 30 h = -1 → m_dw s h = -2) ∧ (I 30 h ≠ -1 → m_dw s h = I 30 h ∧ (0 ≤ I 30 h ∧ I 30 h < s 8)) := by
    intro h h0 h1
    have rh := rh h h0 h1
    refine ⟨fun x => m_dw_e (rh.1 x), fun x => ?_⟩
    obtain ⟨q1, q2⟩ := rh.2 x
    exact ⟨m_dw_f wf q1 q2 h0, q1.1, q1.2.1⟩
  refine e108 (b108_0 ?_)
  refine f295_97 (fun I1 f1 z1 => b108_13 ?_)
  have fr1 : w_fr p108 I I1 := fun a k' e => by
    by_cases x : a = 97
    · subst x; cases e
    · rw [f1 a x, w_Ug]
      by_cases y : a = 93 ∧ k' = 5
      · rw [y.1, y.2] at e; cases e
      · by_cases y1 : a = 93
        · rw [if_pos y1, if_neg (fun z => y ⟨y1, z⟩)]
        · rw [if_neg y1]
  have loop : ∀ (m : Nat) (h : Int) (u2 : Option Value) (o : Int → Int) (I2 : w_I), h + m = s 0 → 0 ≤ h → a_ri s h ≤ 12 → w_fr p108 I I2 → c_or I2 s (a_ri s h) o (fun x => (0 ≤ x ∧ x < h) ∧ a_mb s x) → c_lvl I2 s h →
      w_T xs xl 108 15 [some (.ref 93), some (w_i h), u2] [] [] I2 J b Q := by
    intro m
    induction m with
    | zero =>
      intro h u2 o I2 a0 a1 a2 a3 a4 a5
      have e : h = s 0 := by omega
      subst e
      have e25 : I2 2 5 = s 0 := (a3 2 5 rfl).trans rt.1
      have kk := k1 a2 I2 o a3 ⟨a4.1, r_ext a4.2.1 (fun _ _ _ => rfl) (fun x => Iff.rfl), a4.2.2⟩ a5
      refine b108_15 ?_
      try simp only [w_Ug, reduceIte, Nat.reduceEqDiff, Int.reduceEq, eq_self, e25]
      repeat' (first | apply And.intro | intro)
      all_goals (try first | omega | contradiction | exact Or.inl trivial | exact Or.inr trivial)
    | succ m ih =>
      intro h u2 o I2 a0 a1 a2 a3 a4 a5
      have e25 : I2 2 5 = s 0 := (a3 2 5 rfl).trans rt.1
      have e3 : I2 3 h = s (20 + h) := (a3 3 h rfl).trans (rt.2.2.2.2.2 h a1 (by omega)).1
      have e30 : I2 30 h = I 30 h := a3 30 h rfl
      have w1 := w.2.1 h a1 (by omega)
      obtain ⟨dw1, dw2⟩ := dw h a1 (by omega)
      obtain ⟨l1, l2⟩ := a5
      have l1s := l1 (s (20 + h)) (by omega) (by omega)
      have lb := a_lv_b (s := s) (sd := s (20 + h)) (h := h) a1
      have rb := a_ri_b (s := s) (h := h) a1
      have e935 := a4.1
      have ris := a_ri_s (s := s) (h := h) a1
      have lvn : c_lvl (w_U (w_U (w_U I2 95 h (a_lv s (s (20 + h)) h)) 97 (s (20 + h)) (a_lv s (s (20 + h)) h + 1)) 96 h (a_ri s h)) s (h + 1) := by
        refine ⟨fun sd b1 b2 => ?_, fun x b1 b2 => ?_⟩
        · simp only [w_Ug, reduceIte, Nat.reduceEqDiff]
          rw [a_lv_s a1]
          by_cases c : sd = s (20 + h)
          · rw [if_pos c, if_pos c.symm, c]
          · rw [if_neg c, if_neg (fun z => c z.symm), l1 sd b1 b2]; omega
        · simp only [w_Ug, reduceIte, Nat.reduceEqDiff]
          by_cases c : x = h
          · rw [if_pos c, if_pos c, c]; exact ⟨rfl, rfl⟩
          · rw [if_neg c, if_neg c]; exact l2 x b1 (by omega)
      have frn : w_fr p108 I (w_U (w_U (w_U I2 95 h (a_lv s (s (20 + h)) h)) 97 (s (20 + h)) (a_lv s (s (20 + h)) h + 1)) 96 h (a_ri s h)) := w_frU (w_frU (w_frU a3 rfl) rfl) rfl
      have orn : c_or (w_U (w_U (w_U I2 95 h (a_lv s (s (20 + h)) h)) 97 (s (20 + h)) (a_lv s (s (20 + h)) h + 1)) 96 h (a_ri s h)) s (a_ri s h) o (fun x => (0 ≤ x ∧ x < h) ∧ a_mb s x) := by
        unfold c_or
        simp only [w_Ug, reduceIte, Nat.reduceEqDiff]
        exact a4
      have skip : ¬ a_mb s h → ∀ u2, w_T xs xl 108 15 [some (.ref 93), some (w_i (h + 1)), u2] [] [] (w_U (w_U (w_U I2 95 h (a_lv s (s (20 + h)) h)) 97 (s (20 + h)) (a_lv s (s (20 + h)) h + 1)) 96 h (a_ri s h)) J b Q := by
        intro hm u2
        rw [if_neg hm, Int.add_zero] at ris
        refine ih (h + 1) u2 o _ (by omega) (by omega) (by omega) frn ?_ lvn
        rw [ris]
        refine ⟨orn.1, r_ext orn.2.1 (fun _ _ _ => rfl) (fun x => ?_), orn.2.2⟩
        constructor
        · intro z; exact ⟨⟨z.1.1, by have := z.1.2; omega⟩, z.2⟩
        · intro z
          refine ⟨⟨z.1.1, ?_⟩, z.2⟩
          have := z.1.2
          by_cases e : x = h
          · exact absurd (e ▸ z.2) hm
          · omega
      by_cases c1 : s (20 + h) = 0
      · have sk := skip (fun z => z.1 c1) (some (w_i (s (20 + h))))
        refine b108_15 ?_
        try simp only [w_Ug, reduceIte, Nat.reduceEqDiff, Int.reduceEq, eq_self, e25, e3, l1s, e935]
        repeat' (first | apply And.intro | intro)
        all_goals (try first | omega | contradiction | exact Or.inl trivial | exact Or.inr trivial)
      · by_cases c2 : I 30 h = -1
        · have sk := skip (fun z => by have := z.2; rw [dw1 c2] at this; omega) (some (w_i (s (20 + h))))
          refine b108_15 ?_
          try simp only [w_Ug, reduceIte, Nat.reduceEqDiff, Int.reduceEq, eq_self, e25, e3, e30, l1s, e935]
          repeat' (first | apply And.intro | intro)
          all_goals (try first | omega | contradiction | exact Or.inl trivial | exact Or.inr trivial)
        · obtain ⟨d1, d2⟩ := dw2 c2
          have hm : a_mb s h := ⟨c1, by omega⟩
          rw [if_pos hm] at ris
          have rup := a_ri_up (s := s) (a := h + 1) (c := s 0) (by omega)
          have kk := fun x => k0 x _ frn
          rw [← d1] at e30
          refine b108_15 ?_
          try simp only [w_Ug, reduceIte, Nat.reduceEqDiff, Int.reduceEq, eq_self, e25, e3, e30, l1s, e935]
          repeat' (first | apply And.intro | intro)
          all_goals (try first | omega | contradiction | exact Or.inl trivial | exact Or.inr trivial)
          · refine c109 w (by omega) orn (fun x hx => ?_) (by omega) (by omega) (fun x hx => ?_) (fun I3 o3 fr3 or3 => b108_121 ?_)
            · obtain ⟨p1, p2⟩ := dw x hx.1.1 (by have := hx.1.2; omega)
              refine ⟨hx.1, ?_⟩
              have := hx.2.2
              by_cases y : I 30 x = -1
              · rw [p1 y] at this; omega
              · have := p2 y; omega
            · have x0 : 0 ≤ x ∧ x < 24 ∧ 0 ≤ m_dw s x := by
                rcases hx with hx | hx
                · have := hx.1; have := hx.2.2; omega
                · subst hx; omega
              obtain ⟨p1, p2⟩ := dw x x0.1 x0.2.1
              have y : I 30 x ≠ -1 := fun y => by rw [p1 y] at x0; omega
              have p2 := p2 y
              rw [frn 83 _ rfl]
              exact hk _ (by omega) (by omega)
            · refine ih (h + 1) _ o3 I3 (by omega) (by omega) (by omega) (w_frt frn (p109_108 fr3)) ?_ ?_
              · rw [ris]
                refine ⟨or3.1, r_ext or3.2.1 (fun _ _ _ => rfl) (fun x => ?_), or3.2.2⟩
                constructor
                · intro z
                  rcases z with z | z
                  · exact ⟨⟨z.1.1, by have := z.1.2; omega⟩, z.2⟩
                  · subst z; exact ⟨⟨a1, by omega⟩, hm⟩
                · intro z
                  by_cases e : x = h
                  · exact Or.inr e
                  · exact Or.inl ⟨⟨z.1.1, by have := z.1.2; omega⟩, z.2⟩
              · unfold c_lvl
                rw [w_frA (a := 97) fr3 (fun _ => rfl), w_frA (a := 95) fr3 (fun _ => rfl), w_frA (a := 96) fr3 (fun _ => rfl)]
                exact lvn
          · exact kk (by omega)
  refine loop (s 0).toNat 0 _ (fun _ => 0) I1 (by omega) (by omega) (by show (0 : Int) ≤ 12; decide) fr1 ⟨?_, r_nil (fun x hx => by have := hx.1; omega), fun q x y => ?_⟩ ⟨fun sd x y => ?_, fun x y z => by omega⟩
  · rw [f1 93 (by decide), w_Ug, if_pos rfl, if_pos rfl]
    rfl
  · have : a_ri s 0 = 0 := rfl
    omega
  · rw [z1 sd x y]
    rfl
end
