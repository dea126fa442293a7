section
/-! the reference: steps, mean, where, gap -/
variable {xs : Nat → Int32} {xl : Nat} {I J : w_I} {b : Bool} {Q : Option Value → w_I → w_I → Bool → Prop}
variable {s : Int → Int}
theorem pP_J {I I' : w_I} (h : w_fr pP I I') : w_fr pJ I I' := w_frm h (fun a k e => by
  simp only [pJ, pP, pR, p216, p237, pM, pL, pC, p205, Bool.or_eq_false_iff, Bool.and_eq_false_iff, beq_eq_false_iff_ne, ne_eq, ble_f, decide_eq_false_iff_not] at e ⊢
  omega)
theorem pR_J {I I' : w_I} (h : w_fr pR I I') : w_fr pJ I I' := pP_J (pR_P h)
theorem pL_J {I I' : w_I} (h : w_fr pL I I') : w_fr pJ I I' := pP_J (pM_P (pL_M h))
theorem pC_J {I I' : w_I} (h : w_fr pC I I') : w_fr pJ I I' := pL_J (pC_L h)
theorem p237_J {I I' : w_I} (h : w_fr p237 I I') : w_fr pJ I I' := pR_J (p237_R h)
theorem pN_J {I I' : w_I} (h : w_fr pN I I') : w_fr pJ I I' := w_frm h (fun a k e => by
  simp only [pJ, pN, pC, p205, p216, Bool.or_eq_false_iff, Bool.and_eq_false_iff, beq_eq_false_iff_ne, ne_eq, ble_f, decide_eq_false_iff_not] at e ⊢
  omega)
theorem pU_J {I I' : w_I} (h : w_fr pU I I') : w_fr pJ I I' := w_frm h (fun a k e => by
  simp only [pJ, pU, Bool.or_eq_false_iff, Bool.and_eq_false_iff, beq_eq_false_iff_ne, ne_eq, ble_f, decide_eq_false_iff_not] at e ⊢
  omega)
theorem p216_J {I I' : w_I} (h : w_fr p216 I I') : w_fr pJ I I' := pR_J (p216_R h)
theorem pJ_F {F : m_F} {I I' : w_I} (h : w_fr pJ I I') (hF : m_at I F) : m_at I' F := m_at_fr hF h (fun _ => rfl) (fun _ => rfl) (fun _ => rfl) (fun _ => rfl) (fun _ => rfl) (fun _ => rfl) (fun _ => rfl) (fun _ => rfl)
theorem pJ_s {I I' : w_I} (h : w_fr pJ I I') (hs : I 110 = s) : I' 110 = s := (w_frA h (fun _ => rfl)).trans hs
theorem m_pay0 {F : m_F} {hm ag sz lm : Int → Int} {i h : Int} : m_pay F s 0 hm ag sz lm i h = if hm i = h then 0 else if hm i < 0 then 0 else 1000000 := by
  unfold m_pay
  by_cases c1 : hm i = h
  · rw [if_pos c1, if_pos c1]
  · rw [if_neg c1, if_neg c1, if_pos rfl, Int.add_zero]
theorem l_D_w {F : m_F} {hm ag sz lm : Int → Int} {n H : Int} (hb : 0 ≤ n ∧ n ≤ 25 ∧ 0 ≤ H ∧ H ≤ 24) (hh : ∀ i, 0 ≤ i → i < n → -1 ≤ hm i) : (H < n → l_D (m_pay F s 0 hm ag sz lm) H n.toNat 0 H.toNat = 100000000) ∧ (n ≤ H → l_D (m_pay F s 0 hm ag sz lm) H n.toNat 0 H.toNat = 1000000 * (l_ct hm n.toNat 0 - l_w (fun i => hm i - i) (H - n) n.toNat 0 0)) := by
  refine ⟨fun h => l_D_far _ _ _ (by omega), fun h => ?_⟩
  have e1 := l_D_v (pay := m_pay F s 0 hm ag sz lm) (H := H) (lo := 0) (hi := n) (fun i h _ _ _ _ => m_pay_b) (by omega) n.toNat 0 (H - n).toNat (by omega) (by omega) (by omega)
  rw [show H.toNat = n.toNat + (H - n).toNat by omega, e1]
  have e2 := l_v_w (pay := m_pay F s 0 hm ag sz lm) (hm := hm) (H := H) (n := n) (fun i h _ _ => m_pay0) hh n.toNat 0 (H - n).toNat (by omega) (by omega) (by omega)
  rw [e2, show H - n - (((H - n).toNat : Nat) : Int) = 0 by omega]
theorem s251 {F : m_F} {st n : Int} {r : Int → Int} (hs : I 110 = s) (hF : m_at I F) (wf : m_wf s) (cd : m_cd F s) (hst : w_in st) (hr : 1 ≤ st ∧ st ≤ 20 → ¬ m_tt s → r_ok n r (m_S s (-1)) (m_rk s (m_kf s st)))
    (kN : ¬ (1 ≤ st ∧ st ≤ 20) → Q (some (w_i (-1))) I J b) (k0 : 1 ≤ st ∧ st ≤ 20 → m_tt s → ∀ I', w_fr pJ I I' → Q (some (w_i (-2))) I' J b) (k : 1 ≤ st ∧ st ≤ 20 → ¬ m_tt s → ∀ I', w_fr pJ I I' → Q (some (w_i (m_anw s n r))) I' J b) : w_C xs xl 251 [.ref 104, w_i st] I J b Q := by
  have w := wf.1
  have w0 := w.1
  refine e251 (b251_0 ?_)
  refine s209 hst (by decide) (by decide) (fun h1 => ?_) (fun h1 => ?_)
  · refine b251_7 ?_
    try simp only [w_Ug, reduceIte, Nat.reduceEqDiff, Int.reduceEq, eq_self, if_true]
    repeat' (first | apply And.intro | intro)
    all_goals (try first | omega | contradiction | exact Or.inl trivial | exact Or.inr trivial)
    refine s238a hs wf h1 (fun n1 I1 fr1 e1 q1 => b251_18 ?_)
    have hs1 := pJ_s (pR_J fr1) hs
    have hF1 := pJ_F (pR_J fr1) hF
    refine s236 hs1 w (fun ht => ?_) (fun ht => ?_)
    · have kk := k0 h1 ht I1 (pR_J fr1)
      refine b251_22 ?_
      try simp only [w_Ug, reduceIte, Nat.reduceEqDiff, Int.reduceEq, eq_self, if_true]
      repeat' (first | apply And.intro | intro)
      all_goals (try first | omega | contradiction | exact Or.inl trivial | exact Or.inr trivial)
    · have hr := hr h1 ht
      obtain ⟨ru1, ru2⟩ := r_uniq (q_m_rk (s := s) (kf := m_kf s st) ▸ q1.1) hr (m_S_inj wf (Or.inl rfl) (fun g _ => by have := m_kf_b w (st := st) (g := g) h1.1; omega))
      subst ru1
      have nb := m_row_b wf hr
      have n0 := hr.1
      have qin := q_q_in w q1 (m_S_in (Or.inl rfl))
      refine b251_22 ?_
      try simp only [w_Ug, reduceIte, Nat.reduceEqDiff, Int.reduceEq, eq_self, if_true]
      repeat' (first | apply And.intro | intro)
      all_goals (try first | omega | contradiction | exact Or.inl trivial | exact Or.inr trivial)
      rw [hs1]
      refine s243 hs1 hF1 w cd e1 (by omega) (Or.inl rfl) qin (fun I2 fr2 t2 => ?_)
      have k := k h1 ht I2 (w_frt (pR_J fr1) (pL_J fr2))
      have ew := (l_D_w (s := s) (F := F) (hm := I1 128) (ag := I1 129) (sz := I1 130) (lm := I1 131) (n := n1) (H := s 0) (by omega) (fun i x y => (qin i x y).1.1)).2 nb
      rw [ew]
      have hm : ∀ i, 0 ≤ i → i < n1 → I1 128 i = m_hm s (r i) := fun i x y => by rw [(q1.2 i x y).2.1, ru2 i x y]
      have ct : l_ct (I1 128) n1.toNat 0 = n1 := by
        have := l_ct_all (hm := I1 128) n1.toNat 0 (fun j x y => by
          have rh := m_row_h wf hr (i := j) x (by omega)
          rw [hm j x (by omega)]
          omega)
        omega
      have wc : l_w (fun i => I1 128 i - i) (s 0 - n1) n1.toNat 0 0 = l_w (fun i => m_hm s (r i) - i) (s 0 - n1) n1.toNat 0 0 := l_w_c _ _ _ (fun j x y => by rw [hm j x (by omega)])
      rw [ct, wc]
      have wb := l_w_b (x := fun i => m_hm s (r i) - i) (sl := s 0 - n1) n1.toNat 0 0
      unfold m_anw at k
      generalize l_w (fun i => m_hm s (r i) - i) (s 0 - n1) n1.toNat 0 0 = W at k wb ⊢
      rw [← show 1000000 * (n1 - W) / 1000000 = n1 - W by omega] at k
      refine b251_39 ?_
      try simp only [w_Ug, reduceIte, Nat.reduceEqDiff, Int.reduceEq, eq_self, if_true]
      repeat' (first | apply And.intro | intro)
      all_goals (try first | omega | contradiction | exact Or.inl trivial | exact Or.inr trivial)
  · have kk := kN h1
    refine b251_7 ?_
    try simp only [w_Ug, reduceIte, Nat.reduceEqDiff, Int.reduceEq, eq_self, if_true]
    repeat' (first | apply And.intro | intro)
    all_goals (try first | omega | contradiction | exact Or.inl trivial | exact Or.inr trivial)
theorem m_hm_b (w : m_w0 s) {f : Int} (hf : m_isF s f) : -1 ≤ m_hm s f ∧ m_hm s f < 24 := by
  have w0 := w.1
  have := w.2.2.2.1 _ hf.1 hf.2.1
  unfold m_hm
  split <;> omega
theorem r_kfs (w : m_w0 s) {n : Int} {r : Int → Int} {kf : Int → Int} (r2 : r_ok n r (m_S s (-1)) (m_rk s kf)) : ∀ i j, 0 ≤ i → i ≤ j → j < n → kf (r i) ≤ kf (r j) := fun i j x y z => by
  by_cases e : i = j
  · subst e; omega
  · have := r2.2.2.2 i j x (by omega) z
    have hbi := m_hm_b w (m_S_F (s := s) (c := -1) (Or.inl rfl) _ (r2.2.1 i x (by omega)))
    have hbj := m_hm_b w (m_S_F (s := s) (c := -1) (Or.inl rfl) _ (r2.2.1 j (by omega) z))
    have bi := q_psb (h := m_hm s (r i)) (by omega)
    have bj := q_psb (h := m_hm s (r j)) (by omega)
    rw [← q_m_rk] at this
    unfold q_rk at this
    omega
/-- MEAN -/
theorem s252 {F : m_F} {H fr by' n : Int} {r : Int → Int} (hs : I 110 = s) (hF : m_at I F) (wf : m_wf s) (cd : m_cd F s) (hH : 0 ≤ H ∧ H ≤ 24) (hfr : 0 ≤ fr ∧ fr ≤ 24) (hby : -1 ≤ by' ∧ by' ≤ 1) (hem : by' < 0 → m_emp s fr) (hn : n ≤ H + 1) (hr : r_ok n r (m_S s (-1)) (m_rk s (m_kf s (s 1))))
    (k : ∀ I', w_fr pJ I I' → Q (some (w_i (m_mean F s n r H fr by'))) I' J b) : w_C xs xl 252 [.ref 104, w_i H, w_i fr, w_i by'] I J b Q := by
  have w := wf.1
  have w0 := w.1
  have nb := m_row_b wf hr
  have n0 := hr.1
  refine e252 (b252_0 ?_)
  have st := fun m => m_sum_s (fun a => m_comb F s a * m_mg s n r H fr by' (m_po s n r a)) m
  unfold m_mean at k
  have loop : ∀ (m j : Nat) (l4 l5 : Int) (u6 u7 : Option Value) (I1 : w_I), j + m = 100 → l5 = j → w_fr pJ I I1 → l4 = m_sum (fun a => m_comb F s a * m_mg s n r H fr by' (m_po s n r a)) j → w_T xs xl 252 6 [some (.ref 104), some (w_i H), some (w_i fr), some (w_i by'), some (w_i l4), some (w_i l5), u6, u7] [] [] I1 J b Q := by
    intro m
    induction m with
    | zero =>
      intro j l4 l5 u6 u7 I1 a0 a1 a2 a3
      have kk := k I1 a2
      rw [show (100 : Nat) = j by omega, ← a3] at kk
      refine b252_6 ?_
      try simp only [w_Ug, reduceIte, Nat.reduceEqDiff, Int.reduceEq, eq_self, if_true]
      repeat' (first | apply And.intro | intro)
      all_goals (try first | omega | contradiction | exact Or.inl trivial | exact Or.inr trivial)
    | succ m ih =>
      intro j l4 l5 u6 u7 I1 a0 a1 a2 a3
      have st := st j
      try dsimp only at st
      rw [← a3, ← a1] at st
      refine b252_6 ?_
      try simp only [w_Ug, reduceIte, Nat.reduceEqDiff, Int.reduceEq, eq_self, if_true]
      repeat' (first | apply And.intro | intro)
      all_goals (try first | omega | contradiction | exact Or.inl trivial | exact Or.inr trivial)
      refine s204 (fun I2 g2 z2 => b252_17 ?_)
      have fr2 : w_fr pJ I (w_U I2 124 0 l5) := w_frU (w_frt a2 (pC_J (f124_C g2))) rfl
      have hs2 := pJ_s fr2 hs
      have hF2 := pJ_F fr2 hF
      have vin : ∀ i, w_in (m_vr l5 0 0 0 0 0 0 0 0 0 i) := m_vr_in ⟨by omega, by decide, by decide, by decide, by decide, by decide, by decide, by decide, by decide, by decide⟩
      have v2 : ∀ i, 0 ≤ i → i < 10 → (w_U I2 124 0 l5) 124 i = m_vr l5 0 0 0 0 0 0 0 0 0 i := by
        intro i x y
        simp only [w_Ug, reduceIte, z2 i x y]
        unfold m_vr
        by_cases x0 : i = 0
        · subst x0; simp
        · simp only [if_neg x0]
          repeat' split
          all_goals rfl
      refine s208 hs2 hF2 rfl (by decide) (by decide) (by decide) (cd.1 2 (by decide) (by decide)) (fun i x y => by rw [v2 i x y]; exact vin i) (fun I3 fr3 => ?_)
      rw [m_lawc v2 (cd.1 2 (by decide) (by decide))]
      have ec : m_clamp (m_lawv F s (m_vr l5 0 0 0 0 0 0 0 0 0) 2 1) 9 = m_comb F s l5 := rfl
      rw [ec]
      have cb := m_comb_b (s := s) (F := F) (a := l5)
      have frI := w_frt fr2 (pC_J (p205_C fr3))
      have hs3 := pJ_s frI hs
      have hF3 := pJ_F frI hF
      generalize m_comb F s l5 = cc at st cb ⊢
      by_cases c0 : cc = 0
      · rw [c0, Int.zero_mul] at st
        refine b252_33 ?_
        try simp only [w_Ug, reduceIte, Nat.reduceEqDiff, Int.reduceEq, eq_self, if_true]
        repeat' (first | apply And.intro | intro)
        all_goals (try first | omega | contradiction | exact Or.inl trivial | exact Or.inr trivial)
        exact ih (j + 1) _ _ _ _ I3 (by omega) (by omega) frI (by rw [st]; omega)
      · refine b252_33 ?_
        try simp only [w_Ug, reduceIte, Nat.reduceEqDiff, Int.reduceEq, eq_self, if_true]
        repeat' (first | apply And.intro | intro)
        all_goals (try first | omega | contradiction | exact Or.inl trivial | exact Or.inr trivial)
        rw [hs3]
        refine s238 hs3 wf (by omega) hr (fun I4 fr4 e4 q4 r4 => b252_54 ?_)
        have fr4' := w_frt frI (pR_J fr4)
        have kfs := r_kfs w hr
        -- the houses shifted
        have shift : ∀ (m : Nat) (l7 : Int) (I5 : w_I), l7 + m = n → 0 ≤ l7 → w_fr (fun a _ => a == 128) I4 I5 → (∀ i, 0 ≤ i → i < l7 → I5 128 i = l_sp fr by' (m_hm s (r i))) → (∀ i, l7 ≤ i → i < n → I5 128 i = m_hm s (r i)) →
            w_T xs xl 252 57 [some (.ref 104), some (w_i H), some (w_i fr), some (w_i by'), some (w_i l4), some (w_i l5), some (w_i cc), some (w_i l7)] [] [] I5 J b Q := by
          intro m
          induction m with
          | zero =>
            intro l7 I5 b0 b1 b2 b3 b4
            have e5 : I5 104 36 = n := by rw [b2 104 36 rfl]; exact e4
            have hs5 : I5 110 = s := (w_frA b2 (fun _ => rfl)).trans (pJ_s fr4' hs)
            have fr5 : w_fr pJ I I5 := w_frt fr4' (w_frm b2 (fun a k e => by
              simp only [pJ, Bool.or_eq_false_iff, Bool.and_eq_false_iff, beq_eq_false_iff_ne, ne_eq, ble_f, decide_eq_false_iff_not] at e ⊢
              omega))
            have e126 : I5 126 = I4 126 := w_frA b2 (fun _ => rfl)
            have e127 : I5 127 = I4 127 := w_frA b2 (fun _ => rfl)
            have e129 : I5 129 = I4 129 := w_frA b2 (fun _ => rfl)
            have e130 : I5 130 = I4 130 := w_frA b2 (fun _ => rfl)
            have e131 : I5 131 = I4 131 := w_frA b2 (fun _ => rfl)
            have dv : 0 ≤ l5 / s 1 ∧ l5 / s 1 ≤ 100 := by
              refine ⟨Int.ediv_nonneg (by omega) (by omega), ?_⟩
              have := Int.ediv_le_self (s 1) (show 0 ≤ l5 by omega)
              omega
            have spb : ∀ i, 0 ≤ i → i < n → -1 ≤ l_sp fr by' (m_hm s (r i)) ∧ l_sp fr by' (m_hm s (r i)) ≤ 24 := fun i x y => by
              have rh := m_row_h wf hr x y
              unfold l_sp
              split <;> omega
            refine b252_57 ?_
            try simp only [w_Ug, reduceIte, Nat.reduceEqDiff, Int.reduceEq, eq_self, e5, hs5]
            repeat' (first | apply And.intro | intro)
            all_goals (try first | omega | contradiction | exact Or.inl trivial | exact Or.inr trivial)
            refine s237 e5 ⟨n0, by omega⟩ (by omega) (by decide) (fun i x y => ?_) (fun p I6 fr6 e6 p0 p1 ins gt ngt => b252_113 ?_)
            · rw [e127, (q4.2 i x y).1, r4 i x y, b3 i x (by omega)]
              have := m_kf_b w (st := s 1) (g := r i) (by omega)
              have := spb i x y
              omega
            · have kk : ∀ i, 0 ≤ i → i < n → I5 127 i = m_kf s (s 1) (r i) := fun i x y => by rw [e127, (q4.2 i x y).1, r4 i x y]
              have po : m_po s n r l5 = p := m_po_e ⟨p0, p1⟩ (fun i x y => by
                have h := ngt (by omega)
                rw [kk (p - 1) (by omega) (by omega)] at h
                have := kfs i (p - 1) x (by omega) (by omega)
                omega) (fun i x y => by
                have h := gt i x y
                rw [kk i (by omega) y] at h
                omega)
              have hs6 : I6 110 = s := (w_frA fr6 (fun _ => rfl)).trans hs5
              have fr6' := w_frt fr5 (p237_J fr6)
              have hF6 := pJ_F fr6' hF
              -- the houses of the row
              have hm6 : ∀ i, 0 ≤ i → i ≤ n → I6 128 i = if i < p then l_sp fr by' (m_hm s (r i)) else if i = p then -1 else l_sp fr by' (m_hm s (r (i - 1))) := fun i x y => by
                rw [(ins i x y).2.2.1]
                unfold r_insf
                by_cases c1 : i < p
                · rw [if_pos c1, if_pos c1, b3 i x (by omega)]
                · rw [if_neg c1, if_neg c1]
                  by_cases c2 : i = p
                  · rw [if_pos c2, if_pos c2]
                  · rw [if_neg c2, if_neg c2, b3 (i - 1) (by omega) (by omega)]
              have q6 : q_in I6 (n + 1) := fun i x y => by
                obtain ⟨-, -, -, i4, i5, i6⟩ := ins i x (by omega)
                have hm := hm6 i x (by omega)
                refine ⟨?_, ?_, ?_, ?_⟩
                · rw [hm]
                  by_cases c1 : i < p
                  · rw [if_pos c1]; have := spb i x (by omega); omega
                  · rw [if_neg c1]
                    by_cases c2 : i = p
                    · rw [if_pos c2]; omega
                    · rw [if_neg c2]; have := spb (i - 1) (by omega) (by omega); omega
                · rw [i4]
                  unfold r_insf
                  by_cases c1 : i < p
                  · rw [if_pos c1, e129, (q4.2 i x (by omega)).2.2.1]; have := m_ga_b w (f := I4 126 i); omega
                  · rw [if_neg c1]
                    by_cases c2 : i = p
                    · rw [if_pos c2]; omega
                    · rw [if_neg c2, e129, (q4.2 (i - 1) (by omega) (by omega)).2.2.1]; have := m_ga_b w (f := I4 126 (i - 1)); omega
                · rw [i5]
                  unfold r_insf
                  by_cases c1 : i < p
                  · rw [if_pos c1, e130, (q4.2 i x (by omega)).2.2.2.1]; have := m_gs_b w (f := I4 126 i); omega
                  · rw [if_neg c1]
                    by_cases c2 : i = p
                    · rw [if_pos c2]; omega
                    · rw [if_neg c2, e130, (q4.2 (i - 1) (by omega) (by omega)).2.2.2.1]; have := m_gs_b w (f := I4 126 (i - 1)); omega
                · rw [i6]
                  unfold r_insf
                  by_cases c1 : i < p
                  · rw [if_pos c1, e131, (q4.2 i x (by omega)).2.2.2.2]; have := m_gl_b w (f := I4 126 i); omega
                  · rw [if_neg c1]
                    by_cases c2 : i = p
                    · rw [if_pos c2]; omega
                    · rw [if_neg c2, e131, (q4.2 (i - 1) (by omega) (by omega)).2.2.2.2]; have := m_gl_b w (f := I4 126 (i - 1)); omega
              refine s243 hs6 hF6 w cd e6 (by omega) (Or.inl rfl) q6 (fun I7 fr7 t7 => ?_)
              have fr7' := w_frt fr6' (pL_J fr7)
              have lw := l_D_w (s := s) (F := F) (hm := I6 128) (ag := I6 129) (sz := I6 130) (lm := I6 131) (n := n + 1) (H := H) (by omega) (fun i x y => (q6 i x y).1.1)
              rw [po] at st
              unfold m_mg at st
              by_cases c3 : H < n + 1
              · rw [if_pos c3] at st
                rw [lw.1 c3]
                refine b252_119 ?_
                try simp only [w_Ug, reduceIte, Nat.reduceEqDiff, Int.reduceEq, eq_self, if_true]
                repeat' (first | apply And.intro | intro)
                all_goals (try first | omega | contradiction | exact Or.inl trivial | exact Or.inr trivial)
                exact ih (j + 1) _ _ _ _ I7 (by omega) (by omega) fr7' st.symm
              · rw [if_neg c3] at st
                rw [lw.2 (by omega)]
                -- functions on all places
                have hmc : ∀ i, 0 ≤ i → i < n + 1 → I6 128 i = (fun i => if i < p then l_sp fr by' (m_hm s (r i)) else if i = p then -1 else l_sp fr by' (m_hm s (r (i - 1)))) i := fun i x y => hm6 i x (by omega)
                have ct : l_ct (I6 128) (n + 1).toNat 0 = n := by
                  have e1 : ∀ (k : Nat) (i : Int), 0 ≤ i → i + k = n + 1 → l_ct (I6 128) k i = l_ct (fun i => if i = p then -1 else 0) k i := by
                    intro k
                    induction k with
                    | zero => intro i _ _; rfl
                    | succ k ihk =>
                      intro i x y
                      show (if I6 128 i < 0 then 0 else 1) + l_ct (I6 128) k (i + 1) = (if (if i = p then (-1 : Int) else 0) < 0 then 0 else 1) + l_ct (fun i => if i = p then -1 else 0) k (i + 1)
                      rw [ihk (i + 1) (by omega) (by omega), hm6 i x (by omega)]
                      by_cases c1 : i < p
                      · have := spb i x (by omega)
                        have hh := m_row_h wf hr x (show i < n by omega)
                        have hx := fun z => hem z _ hh.1
                        have : 0 ≤ l_sp fr by' (m_hm s (r i)) := by
                          unfold l_sp
                          split <;> omega
                        rw [if_pos c1, if_neg (show ¬ i = p by omega), if_neg (by omega), if_neg (by omega)]
                      · by_cases c2 : i = p
                        · rw [if_neg c1, if_pos c2, if_pos c2]
                        · have hh := m_row_h wf hr (i := i - 1) (by omega) (by omega)
                          have hx := fun z => hem z _ hh.1
                          have : 0 ≤ l_sp fr by' (m_hm s (r (i - 1))) := by
                            unfold l_sp
                            split <;> omega
                          rw [if_neg c1, if_neg c2, if_neg c2, if_neg (by omega), if_neg (by omega)]
                  rw [e1 _ 0 (by omega) (by omega)]
                  have := (l_ct_skip (hm := fun i => if i = p then -1 else 0) (cp := p) (fun i x y => by simp only [if_neg y]; omega) (by simp) (n + 1).toNat 0 (by omega)).1 p0 (by omega)
                  rw [this]
                  omega
                have wc : l_w (fun i => I6 128 i - i) (H - (n + 1)) (n + 1).toNat 0 0 = l_w (l_x (fun i => l_sp fr by' (m_hm s (r i))) p 1) (H - n - 1) n.toNat 0 0 := by
                  rw [show H - (n + 1) = H - n - 1 by omega]
                  rw [l_w_c (x' := fun i => (if i < p then l_sp fr by' (m_hm s (r i)) else if i = p then -1 else l_sp fr by' (m_hm s (r (i - 1)))) - i) _ _ _ (fun i x y => by rw [hm6 i x (by omega)])]
                  rw [show (n + 1).toNat = n.toNat + 1 by omega]
                  refine (l_w_skip (cp := p) (fun i x y => ?_) ?_ (fun i x => ?_) n.toNat 0 0 (by omega) (by omega)).1 p0 (by omega)
                  · unfold l_x
                    simp only [if_pos y]
                  · simp
                    omega
                  · unfold l_x
                    simp only [if_neg (show ¬ i + 1 < p by omega), if_neg (show ¬ i + 1 = p by omega), if_neg (show ¬ i < p by omega), show i + 1 - 1 = i by omega]
                rw [ct, wc]
                have wb := l_w_b (x := l_x (fun i => l_sp fr by' (m_hm s (r i))) p 1) (sl := H - n - 1) n.toNat 0 0
                generalize l_w (l_x (fun i => l_sp fr by' (m_hm s (r i))) p 1) (H - n - 1) n.toNat 0 0 = W at st wb ⊢
                rw [← show 1000000 * (n - W) / 1000000 = n - W by omega] at st
                refine b252_119 ?_
                try simp only [w_Ug, reduceIte, Nat.reduceEqDiff, Int.reduceEq, eq_self, if_true]
                repeat' (first | apply And.intro | intro)
                all_goals (try first | omega | contradiction | exact Or.inl trivial | exact Or.inr trivial)
                exact ih (j + 1) _ _ _ _ I7 (by omega) (by omega) fr7' st.symm
          | succ m ihm =>
            intro l7 I5 b0 b1 b2 b3 b4
            have e5 : I5 104 36 = n := by rw [b2 104 36 rfl]; exact e4
            have h5 := b4 l7 (Int.le_refl _) (by omega)
            have rh := m_row_h wf hr b1 (show l7 < n by omega)
            refine b252_57 ?_
            try simp only [w_Ug, reduceIte, Nat.reduceEqDiff, Int.reduceEq, eq_self, e5, h5]
            repeat' (first | apply And.intro | intro)
            all_goals (try first | omega | contradiction | exact Or.inl trivial | exact Or.inr trivial)
            · rename_i c
              refine ihm (l7 + 1) I5 (by omega) (by omega) b2 (fun i x y => ?_) (fun i x y => b4 i (by omega) y)
              by_cases e : i = l7
              · subst e
                rw [h5]
                unfold l_sp
                rw [if_neg (by omega)]
              · exact b3 i x (by omega)
            · rename_i c
              refine ihm (l7 + 1) _ (by omega) (by omega) (w_frU b2 rfl) (fun i x y => ?_) (fun i x y => ?_)
              · rw [w_Ug, if_pos rfl]
                by_cases e : i = l7
                · subst e
                  rw [if_pos rfl]
                  unfold l_sp
                  rw [if_pos (by omega)]
                · rw [if_neg e]; exact b3 i x (by omega)
              · rw [w_Ug, if_pos rfl, if_neg (by omega)]
                exact b4 i (by omega) y
        refine shift n.toNat 0 I4 (by omega) (by omega) w_frr (fun i x y => by omega) (fun i x y => ?_)
        rw [(q4.2 i x y).2.1, r4 i x y]
  exact loop 100 0 0 0 _ _ I (by omega) rfl w_frr rfl
end
