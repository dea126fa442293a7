section
/-! told moves judged: the class -/
variable {xs : Nat → Int32} {xl : Nat} {I J : w_I} {b : Bool} {Q : Option Value → w_I → w_I → Bool → Prop}
variable {s : Int → Int}
theorem m_oh_r : m_oh s s := fun _ _ => rfl
theorem m_oh_u {E : Int → Int} (wf : m_wf s) (h : m_oh s E) {f v : Int} (hf : m_isF s f) : m_oh s (u1 E (460 + 3 * f + 1) v) := by
  intro k hk
  rw [u1g, if_neg (hk f hf)]
  exact h k hk
theorem m_ga_oh (wf : m_wf s) {E : Int → Int} (h : m_oh s E) (f : Int) : m_ga E f = m_ga s f ∧ m_gs E f = m_gs s f ∧ m_gl E f = m_gl s f := by
  have e3 := (m_oh_f wf h).2.2.2.1
  obtain ⟨z1, z2⟩ := m_oh_z wf h f (-1)
  refine ⟨?_, z1, z2⟩
  unfold m_ga
  rw [e3]
  exact m_oh_ag wf h f (-1) 0 (s 3)
theorem m_oh_mv (wf : m_wf s) {E : Int → Int} (h : m_oh s E) {k : Int} (hk : 550 ≤ k) : E k = s k := h k (fun f hf => by
  have w0 := wf.1.1
  have := hf.2.1
  omega)
theorem m_oh_T (wf : m_wf s) {E : Int → Int} (h : m_oh s E) : m_eqT s E := fun k hk => h k (fun f hf => by
  have := hf.1
  omega)
theorem c_ag_oh (wf : m_wf s) {E : Int → Int} (h : m_oh s E) {I1 : w_I} (ag : c_ag I1 s 0 (s 3)) : c_ag I1 E 0 (E 3) := by
  obtain ⟨e0, e1, e2, e3, e4, e7, e8, e9, e10⟩ := m_oh_f wf h
  intro f x y
  rw [e8] at y
  have a := ag f x y
  rw [e3, e1, m_oh_ag wf h f (-1) 0 (s 3)]
  exact a
theorem c53 {E : Int → Int} {m on : Int} (rf : c_rf 20 I E) (rt : c_rt I E) (wf : m_wf E) (hm : 0 ≤ m ∧ m < E 10) (hon : w_in on)
    (k : ∀ v, (¬ (m_isF E (E (550 + 3 * m + 1)) ∧ 0 ≤ E (460 + 3 * E (550 + 3 * m + 1) + 1)) → v = 1) → (m_isF E (E (550 + 3 * m + 1)) ∧ 0 ≤ E (460 + 3 * E (550 + 3 * m + 1) + 1) → (E 2 ≤ on → v = 2) ∧ (¬ E 2 ≤ on → (0 ≤ m_dw E (E (550 + 3 * m + 2)) → v = 3) ∧ (m_dw E (E (550 + 3 * m + 2)) < 0 → v = 0))) → Q (some (w_i v)) I J b) : w_C xs xl 53 [.ref 100, w_i m, w_i on] I J b Q := by
  have w := wf.1
  have w0 := w.1
  have wm := w.2.2.2.2 m hm.1 hm.2
  have rf' := rf
  simp only [c_rf, Nat.reduceAdd] at rf'
  obtain ⟨r13, r14, r15, r16, -, -, rh, rm⟩ := rf'
  obtain ⟨rm1, rm2, rm3⟩ := rm m hm.1 hm.2
  have t7 := rt.2.2.1
  have rh := rh (E (550 + 3 * m + 2)) (by omega) (by omega)
  generalize hf : E (550 + 3 * m + 1) = f at *
  generalize hh : E (550 + 3 * m + 2) = h at *
  refine e53 ?_
  refine b53_0 ?_
  try simp only [w_Ug, reduceIte, Nat.reduceEqDiff, Int.reduceEq, eq_self, rm2]
  repeat' (first | apply And.intro | intro)
  all_goals (try first | omega | contradiction | exact Or.inl trivial | exact Or.inr trivial)
  refine c6 rf wf (by omega) (fun x1 => ?_) (fun x1 => ?_)
  · have ch := c_home rf wf x1
    have dw : (I 30 h = -1 → m_dw E h = -2) ∧ (I 30 h ≠ -1 → 0 ≤ m_dw E h) := by
      refine ⟨fun x => m_dw_e (rh.1 x), fun x => ?_⟩
      obtain ⟨q1, q2⟩ := rh.2 x
      rw [m_dw_f wf q1 q2 (by omega)]
      exact q1.1
    have i30 : w_in (I 30 h) := by
      by_cases x : I 30 h = -1
      · omega
      · have := (rh.2 x).1.1; have := (rh.2 x).1.2.1; omega
    refine b53_24 ?_
    try simp only [w_Ug, reduceIte, Nat.reduceEqDiff, Int.reduceEq, eq_self, rm3, t7]
    repeat' (first | apply And.intro | intro)
    all_goals (try first | omega | contradiction | exact Or.inl trivial | exact Or.inr trivial)
    · exact k 0 (fun z => by omega) (fun z => by omega)
    · exact k 3 (fun z => by omega) (fun z => by omega)
    · exact k 2 (fun z => by omega) (fun z => by omega)
    · exact k 1 (fun z => rfl) (fun z => by omega)
  · have kk := k 1 (fun z => rfl) (fun z => absurd z.1 x1)
    refine b53_24 ?_
    try simp only [w_Ug, reduceIte, Nat.reduceEqDiff, Int.reduceEq, eq_self, if_true]
    repeat' (first | apply And.intro | intro)
    all_goals (try first | omega | contradiction | exact Or.inl trivial | exact Or.inr trivial)
def p51 (a : Nat) (k : Int) : Bool := pF a k || pK a k
theorem pK_51 {I I' : w_I} (h : w_fr pK I I') : w_fr p51 I I' := w_frm h (fun a k e => by
  unfold p51 at e
  simp only [Bool.or_eq_false_iff] at e
  exact e.2)
theorem pF_51 {I I' : w_I} (h : w_fr pF I I') : w_fr p51 I I' := w_frm h (fun a k e => by
  unfold p51 at e
  simp only [Bool.or_eq_false_iff] at e
  exact e.1)
theorem p51_cd {F : m_F} {I I' : w_I} (h : w_fr p51 I I') (cd : c_cd (I 5) (I 6) (I 7) F s) : c_cd (I' 5) (I' 6) (I' 7) F s := c_cd_fr cd h (fun _ => rfl) (fun _ => rfl) (fun _ => rfl)
theorem p51_rt {I I' : w_I} (h : w_fr p51 I I') (rt : c_rt I s) : c_rt I' s := by
  unfold c_rt
  rw [w_frA h (fun _ => rfl), w_frA (a := 3) h (fun _ => rfl), w_frA (a := 4) h (fun _ => rfl)]
  exact rt
theorem pX_78 {I I' : w_I} (h : w_fr pW I I') (a : Nat) (ha : a = 101 ∨ a = 82 ∨ a = 83 ∨ (20 ≤ a ∧ a ≤ 47) ∨ a = 100) : I' a = I a := w_frA h (fun k => by
  simp only [pW, pV, p96, Bool.or_eq_false_iff, Bool.and_eq_false_iff, beq_eq_false_iff_ne, ne_eq]
  omega)
theorem pV_78 {I I' : w_I} (h : w_fr pV I I') (a : Nat) (ha : a = 101 ∨ a = 82 ∨ a = 83 ∨ (20 ≤ a ∧ a ≤ 47) ∨ a = 100) : I' a = I a := pX_78 (pV_W h) a ha
theorem pF_78 {I I' : w_I} (h : w_fr pF I I') (a : Nat) (ha : a = 101 ∨ a = 82 ∨ a = 83 ∨ (34 ≤ a ∧ a ≤ 47) ∨ a = 100) : I' a = I a := w_frA h (fun k => by
  simp only [pF, Bool.and_eq_false_iff, ble_f]
  omega)
theorem c51 {F : m_F} (rf : c_rf 20 I s) (rt : c_rt I s) (wf : m_wf s) (cd : c_cd (I 5) (I 6) (I 7) F s)
    (k : ∀ o, r_ok (s 10) o (j_S s) (j_rk s) → ∀ I' E, m_oh s E → m_wf E → w_fr p51 I I' → c_rf 34 I' s → c_rf 20 I' E → E = (j_P F s o (s 10).toNat 0 s 0 0).2.1 → I' 100 3 = (j_P F s o (s 10).toNat 0 s 0 0).2.2 → Q (some (w_i (j_P F s o (s 10).toNat 0 s 0 0).1)) I' J b) : w_C xs xl 51 [.ref 100] I J b Q := by
  have w := wf.1
  have w0 := w.1
  refine e51 (b51_0 ?_)
  refine c4_34_20 rf w (fun I1 f1 a1 => b51_16 ?_)
  have fr1 : w_fr pK I I1 := fun a k e => by
    have : a < 34 ∨ 47 < a := by
      apply Decidable.byContradiction
      intro hc
      simp only [pK, Bool.or_eq_false_iff, Bool.and_eq_false_iff, beq_eq_false_iff_ne, ne_eq, ble_f] at e
      omega
    rw [f1 a this]
  have rf1 := pK_rf fr1 rf
  have rt1 := pK_rt fr1 rt
  refine c21 rf1 rt1 wf (fun I2 g2 ag2 => b51_23 ?_)
  have fr2 := pA_fr g2
  have rf2 := pA_rf fr2 rf1
  refine c52 rf2 w (fun I3 fr3 o3 => b51_27 ?_)
  have frK := w_frt fr1 (w_frt (pA_K fr2) (p52_K fr3))
  have k := k (I3 101) o3
  have a3 : c_rf 34 I3 s := c_rf_fr (fun x h1 h2 => by
    rw [w_frA fr3 (fun k => by simp only [p52, beq_eq_false_iff_ne]; omega), g2 x (by omega) (by omega)]) a1
  have ag3 : c_ag I3 s 0 (s 3) := by
    unfold c_ag
    rw [w_frA (a := 82) fr3 (fun _ => rfl), w_frA (a := 83) fr3 (fun _ => rfl)]
    exact ag2
  generalize ho : I3 101 = o at k o3
  generalize hR : j_P F s o (s 10).toNat 0 s 0 0 = R at k
  have loop : ∀ (m : Nat) (i on c : Int) (E : Int → Int) (u4 u5 : Option Value) (I4 : w_I), i + m = s 10 → 0 ≤ i → 0 ≤ on → on ≤ 40 → m_oh s E → m_wf E → w_fr p51 I I4 → c_rf 34 I4 s → c_rf 20 I4 E → c_ag I4 s 0 (s 3) → I4 101 = o → I4 100 3 = c → R = j_P F s o m i E on c →
      w_T xs xl 51 36 [some (.ref 100), some (.ref 20), some (w_i on), some (w_i i), u4, u5] [] [] I4 J b Q := by
    intro m
    induction m with
    | zero =>
      intro i on c E u4 u5 I4 d0 d1 d2 d3 d4 d5 d6 d7 d8 d9 d10 d11 d12
      have e10 := (m_oh_f wf d4).2.2.2.2.2.2.2.2
      have r16 : I4 20 16 = s 10 := by
        have d8' := d8
        simp only [c_rf, Nat.reduceAdd] at d8'
        rw [d8'.2.2.2.1, e10]
      have d12' : R = (0, E, c) := d12
      have kk := k I4 E d4 d5 d6 d7 d8 (by rw [d12']) (by rw [d12']; exact d11)
      rw [d12'] at kk
      refine b51_36 ?_
      try simp only [w_Ug, reduceIte, Nat.reduceEqDiff, Int.reduceEq, eq_self, r16]
      repeat' (first | apply And.intro | intro)
      all_goals (try first | omega | contradiction | exact Or.inl trivial | exact Or.inr trivial)
    | succ m ih =>
      intro i on c E u4 u5 I4 d0 d1 d2 d3 d4 d5 d6 d7 d8 d9 d10 d11 d12
      obtain ⟨e0, e1, e2, e3, e4, e7, e8, e9, e10⟩ := m_oh_f wf d4
      have oi := o3.2.1 i d1 (by omega)
      have wm := w.2.2.2.2 (o i) oi.1 oi.2
      have mv1 := m_oh_mv wf d4 (k := 550 + 3 * o i) (by omega)
      have mv2 := m_oh_mv wf d4 (k := 550 + 3 * o i + 1) (by omega)
      have mv3 := m_oh_mv wf d4 (k := 550 + 3 * o i + 2) (by omega)
      have r16 : I4 20 16 = s 10 := by
        have d8' := d8
        simp only [c_rf, Nat.reduceAdd] at d8'
        rw [d8'.2.2.2.1, e10]
      have rmE := d8
      simp only [c_rf, Nat.reduceAdd] at rmE
      obtain ⟨-, -, -, -, -, -, -, rmE⟩ := rmE
      have rt4 : c_rt I4 E := c_rt_c (p51_rt d6 rt) w (m_oh_T wf d4)
      have cd4 : c_cd (I4 5) (I4 6) (I4 7) F E := c_cd_c (p51_cd d6 cd) w (m_oh_T wf d4)
      have e101 : I4 101 i = o i := by rw [d10]
      rw [j_P_s] at d12
      refine b51_36 ?_
      try simp only [w_Ug, reduceIte, Nat.reduceEqDiff, Int.reduceEq, eq_self, r16, e101]
      repeat' (first | apply And.intro | intro)
      all_goals (try first | omega | contradiction | exact Or.inl trivial | exact Or.inr trivial)
      refine c53 d8 rt4 d5 (m := o i) (by omega) (by omega) (fun v v1 v2 => ?_)
      rw [mv2] at v1
      rw [mv2, mv3] at v2
      by_cases x1 : m_isF E (s (550 + 3 * o i + 1)) ∧ 0 ≤ E (460 + 3 * s (550 + 3 * o i + 1) + 1)
      · rw [if_neg (fun z => z x1)] at d12
        have v2 := v2 x1
        by_cases x2 : E 2 ≤ on
        · rw [if_pos x2] at d12
          have ev := v2.1 x2
          subst ev
          have kk := k I4 E d4 d5 d6 d7 d8 (by rw [d12]) (by rw [d12]; exact d11)
          rw [d12] at kk
          refine b51_59 ?_
          try simp only [w_Ug, reduceIte, Nat.reduceEqDiff, Int.reduceEq, eq_self, if_true]
          repeat' (first | apply And.intro | intro)
          all_goals (try first | omega | contradiction | exact Or.inl trivial | exact Or.inr trivial)
        · rw [if_neg x2] at d12
          have v2 := v2.2 x2
          by_cases x3 : 0 ≤ m_dw E (s (550 + 3 * o i + 2))
          · rw [if_pos x3] at d12
            have ev := v2.1 x3
            subst ev
            have kk := k I4 E d4 d5 d6 d7 d8 (by rw [d12]) (by rw [d12]; exact d11)
            rw [d12] at kk
            refine b51_59 ?_
            try simp only [w_Ug, reduceIte, Nat.reduceEqDiff, Int.reduceEq, eq_self, if_true]
            repeat' (first | apply And.intro | intro)
            all_goals (try first | omega | contradiction | exact Or.inl trivial | exact Or.inr trivial)
          · rw [if_neg x3] at d12
            have ev := v2.2 (by omega)
            subst ev
            have mvs := rmE (o i) oi.1 (by omega)
            rw [mv2, mv3] at mvs
            obtain ⟨q1, q2, q3⟩ := mvs
            obtain ⟨hf, hl⟩ := x1
            have hf1 := hf.1
            have hf2 := hf.2.1
            have hhm := c_hm d8 d5 hf
            have hhb := m_hm_b d5.1 hf
            have agE := c_ag_oh wf d4 d9
            have a82 : I4 82 (s (550 + 3 * o i + 1)) = m_ga E (s (550 + 3 * o i + 1)) := (agE _ hf1 hf2).1
            have gab := m_ga_b d5.1 (f := s (550 + 3 * o i + 1))
            have hfs : m_isF s (s (550 + 3 * o i + 1)) := (m_oh_i wf d4 _).mp hf
            have ncost : j_c F s E (o i) = m_cost F E (I4 82 (s (550 + 3 * o i + 1))) (m_sz E (s (550 + 3 * o i + 1)) (-1)) (m_lm E (s (550 + 3 * o i + 1)) (-1)) (I4 28 (s (550 + 3 * o i + 1))) (s (550 + 3 * o i + 2)) := by
              unfold j_c m_fcost
              rw [a82, hhm]
            refine b51_59 ?_
            try simp only [w_Ug, reduceIte, Nat.reduceEqDiff, Int.reduceEq, eq_self, q2, q3]
            repeat' (first | apply And.intro | intro)
            all_goals (try first | omega | contradiction | exact Or.inl trivial | exact Or.inr trivial)
            refine c29 d8 d5.1 cd4 ⟨hf1, hf2⟩ (by rw [a82]; omega) (by omega) (by rw [hhm]; omega) (fun I5 fr5 => ?_)
            rw [← ncost]
            have q5 : ∀ a, (20 ≤ a ∧ a ≤ 33) → I5 a = I4 a := fun a ha => pV_78 fr5 a (by omega)
            have r32 : I5 32 (o i) = s (550 + 3 * o i + 1) := by rw [q5 32 (by omega)]; exact q2
            have r33 : I5 33 (o i) = s (550 + 3 * o i + 2) := by rw [q5 33 (by omega)]; exact q3
            have rf5 : c_rf 20 (w_U I5 100 3 (c + j_c F s E (o i))) E := c_rf_fr (fun a h1 h2 => by rw [w_Ua (by omega), q5 a (by omega)]) d8
            rw [d11]
            refine b51_101 ?_
            try simp only [w_Ug, reduceIte, Nat.reduceEqDiff, Int.reduceEq, eq_self, r32, r33]
            repeat' (first | apply And.intro | intro)
            all_goals (try first | omega | contradiction | exact Or.inl trivial | exact Or.inr trivial)
            have em : m_emp E (s (550 + 3 * o i + 2)) := fun g hg eg => by
              rw [m_dw_f d5 hg eg (by omega)] at x3
              exact x3 hg.1
            refine c16 rf5 d5 hf ⟨by omega, by omega, em⟩ (fun I6 fr6 rf6 => ?_)
            have d4' : m_oh s (j_e s E (o i)) := m_oh_u wf d4 hfs
            have d5' : m_wf (j_e s E (o i)) := m_wf_home d5 hf (Or.inr ⟨by omega, by omega, em⟩)
            have fr6' : w_fr p51 I I6 := w_frt d6 (w_frt (pK_51 (pV_K fr5)) (w_frt (w_frU w_frr rfl) (pF_51 fr6)))
            have keep : ∀ a, (a = 101 ∨ a = 82 ∨ a = 83 ∨ (34 ≤ a ∧ a ≤ 47)) → I6 a = I4 a := fun a ha => by
              rw [pF_78 fr6 a (by omega), w_Ua (by omega), pV_78 fr5 a (by omega)]
            have d7' : c_rf 34 I6 s := c_rf_fr (fun a h1 h2 => keep a (by omega)) d7
            have d9' : c_ag I6 s 0 (s 3) := by
              unfold c_ag
              rw [keep 82 (by omega), keep 83 (by omega)]
              exact d9
            have d10' : I6 101 = o := (keep 101 (by omega)).trans d10
            have d11' : I6 100 3 = c + j_c F s E (o i) := by rw [pF_78 fr6 100 (by omega), w_Ug, if_pos rfl, if_pos rfl]
            have r16' : I6 20 16 = s 10 := by
              have d8' := rf6
              simp only [c_rf, Nat.reduceAdd] at d8'
              rw [d8'.2.2.2.1]
              exact (m_oh_f wf d4').2.2.2.2.2.2.2.2
            have rm6 := rf6
            simp only [c_rf, Nat.reduceAdd] at rm6
            obtain ⟨-, -, -, -, -, -, -, rm6⟩ := rm6
            have m31 : ∀ x, 0 ≤ x → x < s 10 → I6 31 x = s (550 + 3 * x) := fun x h1 h2 => by
              rw [(rm6 x h1 (by
              have e10' := (m_oh_f wf d4').2.2.2.2.2.2.2.2
              show x < (j_e s E (o i)) 10
              rw [e10']
              exact h2)).1]
              exact m_oh_mv wf d4' (by omega)
            have rt6 : c_rt I6 (j_e s E (o i)) := c_rt_c (p51_rt fr6' rt) w (m_oh_T wf d4')
            have cd6 : c_cd (I6 5) (I6 6) (I6 7) F (j_e s E (o i)) := c_cd_c (p51_cd fr6' cd) w (m_oh_T wf d4')
            have ag6 := c_ag_oh wf d4' d9'
            have m31i := m31 (o i) oi.1 oi.2
            -- a morning ends
            have ends : ¬ (i + 1 < s 10 ∧ s (550 + 3 * o (i + 1)) = s (550 + 3 * o i)) → w_C xs xl 25 [.ref 78, w_i 0] I6 J b (fun v Ic Jc bc => w_T xs xl 51 169 [some (.ref 100), some (.ref 20), some (w_i 0), some (w_i i), some (w_i (o i)), some (w_i 0)] [] (w_pv v []) Ic Jc bc Q) := by
              intro hn
              rw [if_neg hn] at d12
              refine c25 (U := m_U F (j_e s E (o i)) 0 (j_e s E (o i) 3)) rf6 rt6 d5' cd6 ag6 (by decide) (fun a d _ _ _ => m_U_iff) (fun I7 fr7 e7' => ?_)
              have sc := (u_scan_any (U := m_U F (j_e s E (o i)) 0 (j_e s E (o i) 3)) (H := j_e s E (o i) 0) 700 0 1 (by omega) (by omega)).1
              have sb := u_scan_in (U := m_U F (j_e s E (o i)) 0 (j_e s E (o i) 3)) (H := j_e s E (o i) 0) (i := 0) (by have := d5'.1.1; omega) 700 0 1 0 (by omega) (by omega) (by omega)
              have ab := m_any_b (s := j_e s E (o i)) (F := F)
              have ea : (u_scan (m_U F (j_e s E (o i)) 0 (j_e s E (o i) 3)) (j_e s E (o i) 0) (-1) 700 0 1 0).2 = m_any F (j_e s E (o i)) := rfl
              rw [ea] at sc
              generalize (u_scan (m_U F (j_e s E (o i)) 0 (j_e s E (o i) 3)) (j_e s E (o i) 0) 0 700 0 1 0).1 = v7 at sc sb
              have fr7' : w_fr p51 I I7 := w_frt fr6' (pK_51 (pX_K (pW_X fr7)))
              have rf7 : c_rf 20 I7 (j_e s E (o i)) := c_rf_fr (fun a h1 h2 => pX_78 fr7 a (by omega)) rf6
              have d77 : c_rf 34 I7 s := c_rf_fr (fun a h1 h2 => pX_78 fr7 a (by omega)) d7'
              have d71 : I7 100 3 = c + j_c F s E (o i) := by rw [pX_78 fr7 100 (by omega)]; exact d11'
              have d79 : c_ag I7 s 0 (s 3) := by
                unfold c_ag
                rw [pX_78 fr7 82 (by omega), pX_78 fr7 83 (by omega)]
                exact d9'
              by_cases x4 : 0 < m_any F (j_e s E (o i))
              · rw [if_pos x4] at d12
                have kk := k I7 _ d4' d5' fr7' d77 rf7 (by rw [d12]) (by rw [d12]; exact d71)
                rw [d12] at kk
                refine b51_169 ?_
                try simp only [w_Ug, reduceIte, Nat.reduceEqDiff, Int.reduceEq, eq_self, if_true]
                repeat' (first | apply And.intro | intro)
                all_goals (try first | omega | contradiction | exact Or.inl trivial | exact Or.inr trivial)
              · rw [if_neg x4] at d12
                refine b51_169 ?_
                try simp only [w_Ug, reduceIte, Nat.reduceEqDiff, Int.reduceEq, eq_self, if_true]
                repeat' (first | apply And.intro | intro)
                all_goals (try first | omega | contradiction | exact Or.inl trivial | exact Or.inr trivial)
                exact ih (i + 1) 0 _ _ _ _ I7 (by omega) (by omega) (by omega) (by omega) d4' d5' fr7' d77 rf7 d79 ((pX_78 fr7 101 (by omega)).trans d10') d71 d12
            by_cases x5 : i + 1 < s 10
            · have oi1 := o3.2.1 (i + 1) (by omega) x5
              have m31j := m31 (o (i + 1)) oi1.1 oi1.2
              have wm1 := w.2.2.2.2 (o (i + 1)) oi1.1 oi1.2
              have e101' : I6 101 (i + 1) = o (i + 1) := by rw [d10']
              by_cases x6 : s (550 + 3 * o (i + 1)) = s (550 + 3 * o i)
              · rw [if_pos ⟨x5, x6⟩] at d12
                refine b51_123 ?_
                try simp only [w_Ug, reduceIte, Nat.reduceEqDiff, Int.reduceEq, eq_self, r16', e101', m31i, m31j]
                repeat' (first | apply And.intro | intro)
                all_goals (try first | omega | contradiction | exact Or.inl trivial | exact Or.inr trivial)
                exact ih (i + 1) (on + 1) _ _ _ _ I6 (by omega) (by omega) (by omega) (by have := d5.1.1; omega) d4' d5' fr6' d7' rf6 d9' d10' d11' d12
              · have en := ends (fun z => x6 z.2)
                refine b51_123 ?_
                try simp only [w_Ug, reduceIte, Nat.reduceEqDiff, Int.reduceEq, eq_self, r16', e101', m31i, m31j]
                repeat' (first | apply And.intro | intro)
                all_goals (try first | omega | contradiction | exact Or.inl trivial | exact Or.inr trivial)
            · have en := ends (fun z => x5 z.1)
              refine b51_123 ?_
              try simp only [w_Ug, reduceIte, Nat.reduceEqDiff, Int.reduceEq, eq_self, r16', m31i]
              repeat' (first | apply And.intro | intro)
              all_goals (try first | omega | contradiction | exact Or.inl trivial | exact Or.inr trivial)
      · rw [if_pos x1] at d12
        have ev := v1 x1
        subst ev
        have kk := k I4 E d4 d5 d6 d7 d8 (by rw [d12]) (by rw [d12]; exact d11)
        rw [d12] at kk
        refine b51_59 ?_
        try simp only [w_Ug, reduceIte, Nat.reduceEqDiff, Int.reduceEq, eq_self, if_true]
        repeat' (first | apply And.intro | intro)
        all_goals (try first | omega | contradiction | exact Or.inl trivial | exact Or.inr trivial)
  have r20 : ∀ a, 20 ≤ a → a ≤ 33 → (w_U I3 100 3 0) a = I a := fun a x y => by
    rw [w_Ua (by omega), w_frA frK (pK_of (Or.inl ⟨x, y⟩))]
  refine loop (s 10).toNat 0 0 0 s _ _ _ (by omega) (by omega) (by omega) (by omega) m_oh_r wf (w_frU (pK_51 frK) rfl) (c_rf_fr (fun a h1 h2 => w_Ua (by omega)) a3) (c_rf_fr (fun a h1 h2 => r20 a h1 h2) rf) ?_ ?_ ?_ hR.symm
  · unfold c_ag
    rw [w_Ua (by decide), w_Ua (by decide)]
    exact ag3
  · rw [w_Ua (by decide)]; exact ho
  · rw [w_Ug, if_pos rfl, if_pos rfl]
theorem c50 (ra : c_rf 34 I s) (w : m_w0 s) (k : ∀ I', w_fr pF I I' → c_rf 20 I' s → Q none I' J b) : w_C xs xl 50 [.ref 100] I J b Q := by
  refine e50 (b50_0 ?_)
  refine c4_20_34 ra w (fun I1 f1 r1 => b50_14 (k I1 (fun a k e => ?_) r1))
  have : a < 20 ∨ 33 < a := by
    simp only [pF, Bool.and_eq_false_iff, ble_f] at e
    omega
  rw [f1 a this]
theorem c145 {F : m_F} (rf : c_rf 20 I s) (rt : c_rt I s) (wf : m_wf s) (cd : c_cd (I 5) (I 6) (I 7) F s)
    (k : ∀ o, r_ok (s 10) o (j_S s) (j_rk s) → ∀ I', w_fr p51 I I' → c_rf 20 I' s → Q (some (w_i (j_P F s o (s 10).toNat 0 s 0 0).1)) I' J b) : w_C xs xl 145 [.ref 0] I J b Q := by
  refine e145 (b145_0 ?_)
  refine c51 rf rt wf cd (fun o ho I1 E _ _ fr1 r34 _ _ _ => b145_7 ?_)
  exact c50 r34 wf.1 (fun I2 fr2 r2 => b145_15 (k o ho I2 (w_frt fr1 (pF_51 fr2)) r2))
theorem c146 {F : m_F} (rf : c_rf 20 I s) (rt : c_rt I s) (wf : m_wf s) (cd : c_cd (I 5) (I 6) (I 7) F s)
    (k0 : ∀ o, r_ok (s 10) o (j_S s) (j_rk s) → (j_P F s o (s 10).toNat 0 s 0 0).1 ≠ 0 → ∀ I', w_fr p51 I I' → c_rf 20 I' s → Q (some (w_i (-2))) I' J b)
    (k1 : ∀ o, r_ok (s 10) o (j_S s) (j_rk s) → (j_P F s o (s 10).toNat 0 s 0 0).1 = 0 → m_oh s (j_P F s o (s 10).toNat 0 s 0 0).2.1 → m_wf (j_P F s o (s 10).toNat 0 s 0 0).2.1 → ∀ I', w_fr p51 I I' → c_rf 20 I' (u1 (j_P F s o (s 10).toNat 0 s 0 0).2.1 10 0) → Q (some (w_i (j_P F s o (s 10).toNat 0 s 0 0).2.2)) I' J b)
    (hb : ∀ o, r_ok (s 10) o (j_S s) (j_rk s) → w_in (j_P F s o (s 10).toNat 0 s 0 0).1) : w_C xs xl 146 [.ref 0] I J b Q := by
  refine e146 (b146_0 ?_)
  refine c51 rf rt wf cd (fun o ho I1 E h1 h2 fr1 r34 r20 eE ec => ?_)
  have hb := hb o ho
  have k0 := k0 o ho
  have k1 := k1 o ho
  generalize j_P F s o (s 10).toNat 0 s 0 0 = R at *
  subst eE
  by_cases c : R.1 = 0
  · have kk := k1 c h1 h2 (w_U I1 20 16 0) (w_frU fr1 rfl) (c_rf_fg r20 h2.1)
    refine b146_7 ?_
    try simp only [w_Ug, reduceIte, Nat.reduceEqDiff, Int.reduceEq, eq_self, ec]
    repeat' (first | apply And.intro | intro)
    all_goals (try first | omega | contradiction | exact Or.inl trivial | exact Or.inr trivial)
  · have kk := fun I2 fr2 r2 => k0 c I2 (w_frt fr1 (pF_51 fr2)) r2
    refine b146_7 ?_
    try simp only [w_Ug, reduceIte, Nat.reduceEqDiff, Int.reduceEq, eq_self, ec]
    repeat' (first | apply And.intro | intro)
    all_goals (try first | omega | contradiction | exact Or.inl trivial | exact Or.inr trivial)
    exact c50 r34 wf.1 (fun I2 fr2 r2 => b146_17 (kk I2 fr2 r2))
end
