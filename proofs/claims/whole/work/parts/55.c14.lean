section
/-! the class: all in the row -/
variable {xs : Nat → Int32} {xl : Nat} {I J : w_I} {b : Bool} {Q : Option Value → w_I → w_I → Bool → Prop}
variable {s : Int → Int}
def m_ps (s : Int → Int) (g : Int) : Int := if s (460 + 3 * g + 1) < 0 then 1000 else s (460 + 3 * g + 1)
def m_rk (s kf : Int → Int) (g : Int) : Int := kf g * 2000 + m_ps s g
/-- who stands in the row -/
def m_S (s : Int → Int) (c g : Int) : Prop := (m_isF s g ∧ 0 ≤ s (460 + 3 * g + 1)) ∨ (g = c ∧ c ≠ -1)
theorem c23 {c : Int} {kf : Int → Int} (rf : c_rf 20 I s) (rt : c_rt I s) (wf : m_wf s) (hk : ∀ g, 0 ≤ g → g < s 8 → I 83 g = kf g ∧ 0 ≤ kf g ∧ kf g < 1000) (hc : c = -1 ∨ (m_isF s c ∧ s (460 + 3 * c + 1) = -2))
    (k : ∀ n I', w_fr p24 I I' → I' 78 6 = n → n ≤ s 0 + 1 → r_ok n (I' 84) (m_S s c) (m_rk s kf) → Q none I' J b) : w_C xs xl 23 [.ref 78, w_i c] I J b Q := by
  have w := wf.1
  have w0 := w.1
  have rf' := rf
  simp only [c_rf, Nat.reduceAdd] at rf'
  obtain ⟨-, -, -, -, -, -, rh, -⟩ := rf'
  have t5 : I 2 5 = s 0 := rt.1
  have hcb : w_in c := by
    rcases hc with x | x
    · omega
    · have := x.1.1; have := x.1.2.1; omega
  refine e23 (b23_0 ?_)
  have loop : ∀ (m : Nat) (l2 n : Int) (I1 : w_I), l2 + m = s 0 → 0 ≤ l2 → n ≤ l2 → w_fr p24 I I1 → I1 78 6 = n → r_ok n (I1 84) (fun g => m_isF s g ∧ 0 ≤ s (460 + 3 * g + 1) ∧ s (460 + 3 * g + 1) < l2) (m_rk s kf) →
      w_T xs xl 23 7 [some (.ref 78), some (w_i c), some (w_i l2)] [] [] I1 J b Q := by
    intro m
    induction m with
    | zero =>
      intro l2 n I1 a0 a1 a2 a3 a4 a5
      have i2 : I1 2 5 = s 0 := by rw [w_frA a3 (fun _ => rfl)]; exact t5
      have e83 : I1 83 = I 83 := w_frA a3 (fun _ => rfl)
      by_cases xc : c = -1
      · have kk := k n I1 a3 a4 (by omega) (r_ext a5 (fun _ _ _ => rfl) (fun g => by
          unfold m_S
          constructor
          · intro x; exact Or.inl ⟨x.1, x.2.1⟩
          · intro x
            rcases x with x | x
            · have := w.2.2.2.1 g x.1.1 x.1.2.1
              exact ⟨x.1, x.2, by omega⟩
            · exact absurd xc x.2))
        refine b23_7 ?_
        try simp only [w_Ug, reduceIte, Nat.reduceEqDiff, Int.reduceEq, eq_self, i2]
        repeat' (first | apply And.intro | intro)
        all_goals (try first | omega | contradiction | exact Or.inl trivial | exact Or.inr trivial)
      · rcases hc with x | ⟨x1, x2⟩
        · exact absurd x xc
        · have hc1 := x1.1
          have hc2 := x1.2.1
          have pc : m_ps s c = 1000 := by unfold m_ps; rw [if_pos (by omega)]
          refine b23_7 ?_
          try simp only [w_Ug, reduceIte, Nat.reduceEqDiff, Int.reduceEq, eq_self, i2]
          repeat' (first | apply And.intro | intro)
          all_goals (try first | omega | contradiction | exact Or.inl trivial | exact Or.inr trivial)
          refine c24 (kf := kf) (ps := m_ps s) a4 (by omega) a5 (fun g hg => ?_) (by omega) (by rw [e83]; exact hk c hc1 hc2) (by omega) (fun I2 fr2 n2 r2 => b23_60 ?_)
          · have := hg.1.1
            have := hg.1.2.1
            rw [e83]
            refine ⟨by omega, (hk g (by omega) (by omega)).1, (hk g (by omega) (by omega)).2, ?_⟩
            rw [pc]
            unfold m_ps
            rw [if_neg (by omega)]
            omega
          · refine k (n + 1) I2 (w_frt a3 fr2) n2 (by omega) (r_ext r2 (fun _ _ _ => rfl) (fun g => ?_))
            unfold m_S
            constructor
            · intro x
              rcases x with x | x
              · exact Or.inl ⟨x.1, x.2.1⟩
              · exact Or.inr ⟨x, xc⟩
            · intro x
              rcases x with x | x
              · have := w.2.2.2.1 g x.1.1 x.1.2.1
                exact Or.inl ⟨x.1, x.2, by omega⟩
              · exact Or.inr x.1
    | succ m ih =>
      intro l2 n I1 a0 a1 a2 a3 a4 a5
      have i2 : I1 2 5 = s 0 := by rw [w_frA a3 (fun _ => rfl)]; exact t5
      have e83 : I1 83 = I 83 := w_frA a3 (fun _ => rfl)
      have e30 : I1 30 = I 30 := w_frA a3 (fun _ => rfl)
      have rh := rh l2 a1 (by omega)
      by_cases xd : I 30 l2 = -1
      · have em := rh.1 xd
        refine b23_7 ?_
        try simp only [w_Ug, reduceIte, Nat.reduceEqDiff, Int.reduceEq, eq_self, i2, e30, xd]
        repeat' (first | apply And.intro | intro)
        all_goals (try first | omega | contradiction | exact Or.inl trivial | exact Or.inr trivial)
        refine ih (l2 + 1) n I1 (by omega) (by omega) (by omega) a3 a4 (r_ext a5 (fun _ _ _ => rfl) (fun g => ?_))
        constructor
        · intro x; exact ⟨x.1, x.2.1, by have := x.2.2; omega⟩
        · intro x
          have := em g x.1
          exact ⟨x.1, x.2.1, by have := x.2.2; omega⟩
      · obtain ⟨hf, ef⟩ := rh.2 xd
        have hf1 := hf.1
        have hf2 := hf.2.1
        generalize hd : I 30 l2 = f at *
        have pf : m_ps s f = l2 := by unfold m_ps; rw [if_neg (by omega)]; exact ef
        refine b23_7 ?_
        try simp only [w_Ug, reduceIte, Nat.reduceEqDiff, Int.reduceEq, eq_self, i2, e30, hd]
        repeat' (first | apply And.intro | intro)
        all_goals (try first | omega | contradiction | exact Or.inl trivial | exact Or.inr trivial)
        refine c24 (kf := kf) (ps := m_ps s) a4 (by omega) a5 (fun g hg => ?_) (by omega) (by rw [e83]; exact hk f hf1 hf2) (by omega) (fun I2 fr2 n2 r2 => b23_44 ?_)
        · have := hg.1.1
          have := hg.1.2.1
          rw [e83]
          refine ⟨by omega, (hk g (by omega) (by omega)).1, (hk g (by omega) (by omega)).2, ?_⟩
          rw [pf]
          unfold m_ps
          rw [if_neg (by omega)]
          omega
        · refine ih (l2 + 1) (n + 1) I2 (by omega) (by omega) (by omega) (w_frt a3 fr2) n2 (r_ext r2 (fun _ _ _ => rfl) (fun g => ?_))
          constructor
          · intro x
            rcases x with x | x
            · exact ⟨x.1, x.2.1, by have := x.2.2; omega⟩
            · subst x; exact ⟨hf, by omega, by omega⟩
          · intro x
            by_cases e : s (460 + 3 * g + 1) = l2
            · exact Or.inr (wf.2.2.2 g f x.1 hf x.2.1 (by omega))
            · exact Or.inl ⟨x.1, x.2.1, by have := x.2.2; omega⟩
  exact loop (s 0).toNat 0 0 _ (by omega) (by omega) (by omega) (w_frU w_frr rfl) (by rw [w_Ug, if_pos rfl, if_pos rfl]) (r_nil (fun g x => by omega))
end
