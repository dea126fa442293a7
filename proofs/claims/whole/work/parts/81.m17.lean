section
/-! told moves judged: the reference -/
variable {xs : Nat → Int32} {xl : Nat} {I J : w_I} {b : Bool} {Q : Option Value → w_I → w_I → Bool → Prop}
variable {s : Int → Int}
theorem j_P_b {F : m_F} {o : Int → Int} (ho : r_ok (s 10) o (j_S s) (j_rk s)) (h40 : s 10 ≤ 40) : ∀ (k : Nat) (i on c : Int) (E : Int → Int), 0 ≤ i → i + k ≤ s 10 → 0 ≤ (j_P F s o k i E on c).1 ∧ (j_P F s o k i E on c).1 ≤ 400
  | 0, i, on, c, E, _, _ => by
    show 0 ≤ (0 : Int) ∧ (0 : Int) ≤ 400
    omega
  | k + 1, i, on, c, E, h0, h1 => by
    have oi := ho.2.1 i h0 (by omega)
    rw [j_P_s]
    split
    · dsimp only; omega
    · split
      · dsimp only; omega
      · split
        · dsimp only; omega
        · split
          · exact j_P_b ho h40 k (i + 1) _ _ _ (by omega) (by omega)
          · split
            · dsimp only; omega
            · exact j_P_b ho h40 k (i + 1) _ _ _ (by omega) (by omega)
def pB (a : Nat) (k : Int) : Bool := a == 110 || pJ a k
theorem pJ_B {I I' : w_I} (h : w_fr pJ I I') : w_fr pB I I' := w_frm h (fun a k e => by
  unfold pB at e
  simp only [Bool.or_eq_false_iff] at e
  exact e.2)
theorem p110_B {I I' : w_I} (h : w_fr p110 I I') : w_fr pB I I' := w_frm h (fun a k e => by
  unfold pB at e
  unfold p110
  simp only [Bool.or_eq_false_iff] at e
  exact e.1)
theorem pB_F {F : m_F} {I I' : w_I} (h : w_fr pB I I') (hF : m_at I F) : m_at I' F := m_at_fr hF h (fun _ => rfl) (fun _ => rfl) (fun _ => rfl) (fun _ => rfl) (fun _ => rfl) (fun _ => rfl) (fun _ => rfl) (fun _ => rfl)
theorem m_cd_oh {F : m_F} {E : Int → Int} (wf : m_wf s) (cd : m_cd F s) (h : m_oh s E) : m_cd F E := by
  have w0 := wf.1.1
  have hT := m_oh_T wf h
  refine ⟨fun w h0 h1 => ?_, fun r h0 h1 => ?_⟩
  · rw [hT (11 + 2 * w) (by omega), hT (11 + 2 * w + 1) (by omega)]
    exact cd.1 w h0 h1
  · rw [hT 4 (by omega)] at h1
    rw [hT (80 + 2 * r) (by omega), hT (80 + 2 * r + 1) (by omega)]
    exact cd.2 r h0 h1
theorem s265 {F : m_F} {f h : Int} (hs : I 110 = s) (hF : m_at I F) (wf : m_wf s) (cd : m_cd F s) (hf : m_isF s f) (hl : 0 ≤ s (460 + 3 * f + 1)) (hh : 0 ≤ h ∧ h < s 0)
    (k : ∀ I', w_fr pJ I I' → I' 104 54 = I 104 54 → I' 138 = I 138 → Q (some (w_i (m_fcost F s f h))) I' J b) : w_C xs xl 265 [.ref 104, w_i f, w_i h] I J b Q := by
  have w := wf.1
  have w0 := w.1
  have hf1 := hf.1
  have hf2 := hf.2.1
  have w3 := w.2.2.2.1 f hf1 hf2
  have hhm : m_hm s f = s (460 + 3 * f + 1) := by unfold m_hm; rw [if_neg (by omega)]
  refine e265 (b265_0 ?_)
  have hs0 : (w_U I 104 36 0) 110 = s := by rw [w_Ua (by decide)]; exact hs
  refine s217 hs0 w (by omega) (fun I1 fr1 e1 e2 e3 => b265_10 ?_)
  have fr1' : w_fr pJ I I1 := w_frt (w_frU w_frr rfl) (p216_J fr1)
  have hs1 := pJ_s fr1' hs
  have n1 : I1 104 36 = 0 := by rw [fr1 104 36 rfl, w_Ug, if_pos rfl, if_pos rfl]
  have c1 : I1 104 54 = I 104 54 := by rw [fr1 104 54 rfl, w_Ug, if_pos rfl, if_neg (by decide)]
  refine s213 hs1 (by omega) (b265_18 ?_)
  rw [e1, e2, e3]
  have b1 := m_ga_b w (f := f)
  have b2 := m_gs_b w (f := f)
  have b3 := m_gl_b w (f := f)
  refine s237 n1 (by omega) (by decide) (by omega) (fun i x y => by omega) (fun p I2 fr2 n2 p0 p1 ins gt ngt => b265_33 ?_)
  have fr2' := w_frt fr1' (p237_J fr2)
  have hs2 := pJ_s fr2' hs
  have hF2 := pJ_F fr2' hF
  have ep : p = 0 := by omega
  subst ep
  obtain ⟨-, -, i3, i4, i5, i6⟩ := ins 0 (by omega) (by omega)
  unfold r_insf at i3 i4 i5 i6
  rw [if_neg (by omega), if_pos rfl] at i3 i4 i5 i6
  refine s241 hs2 hF2 w cd (by decide) (by rw [i3]; omega) (by
    rw [i4, i5, i6]
    have b1 : 0 ≤ m_ag s f (-1) 0 (s 3) ∧ m_ag s f (-1) 0 (s 3) ≤ 199 := b1
    have b2 : 0 ≤ m_sz s f (-1) ∧ m_sz s f (-1) ≤ 60 := b2
    have b3 : 0 ≤ m_lm s f (-1) ∧ m_lm s f (-1) ≤ 60 := b3
    exact ⟨by omega, by omega, by omega⟩) (by omega) (fun I3 fr3 => b265_39 ?_)
  rw [i3, i4, i5, i6]
  unfold m_fcost at k
  rw [hhm] at k
  exact k I3 (w_frt fr2' (pC_J fr3)) (by rw [fr3 104 54 rfl, fr2 104 54 rfl]; exact c1) (by rw [w_frA (a := 138) fr3 (fun _ => rfl), w_frA (a := 138) fr2 (fun _ => rfl), w_frA (a := 138) fr1 (fun _ => rfl), w_Ua (by decide)])
theorem s266 {F : m_F} {o : Int → Int} (hs : I 110 = s) (hF : m_at I F) (wf : m_wf s) (cd : m_cd F s) (ho : r_ok (s 10) o (j_S s) (j_rk s))
    (k : ∀ I' E, m_oh s E → w_fr pB I I' → I' 110 = E → I' 138 = I 138 → E = (j_P F s o (s 10).toNat 0 s 0 0).2.1 → I' 104 54 = (j_P F s o (s 10).toNat 0 s 0 0).2.2 → Q (some (w_i (j_P F s o (s 10).toNat 0 s 0 0).1)) I' J b) : w_C xs xl 266 [.ref 104] I J b Q := by
  have w := wf.1
  have w0 := w.1
  have wm := w.2.2.2.2
  generalize hR : j_P F s o (s 10).toNat 0 s 0 0 = R at k
  refine e266 (b266_0 ?_)
  -- at the head of the loop over the moves
  have inner : ∀ (q : Nat) (d l2 l3 l4 i c : Int) (E : Int → Int) (u5 u6 u7 : Option Value) (I1 : w_I), 100 * (100 - d) + (s 10 - l4) = q → 0 ≤ d → d < 100 → 0 ≤ l4 → l4 ≤ s 10 → 0 ≤ l2 → l2 ≤ E 2 → 0 ≤ i → i ≤ s 10 → (0 < l2 → 0 ≤ l3 ∧ l3 < 40) →
      (∀ j, 0 ≤ j → j < i → j_rk s (o j) < 100 * d + l4) → (∀ j, i ≤ j → j < s 10 → 100 * d + l4 ≤ j_rk s (o j)) → m_oh s E → m_wf E → w_fr pB I I1 → I1 110 = E → I1 138 = I 138 → I1 104 54 = c →
      R = (if 0 < l2 ∧ ¬ (i < s 10 ∧ s (550 + 3 * o i) = d) then (if 0 < m_any F E then (10 * l3 + 4, E, c) else j_P F s o (s 10 - i).toNat i E 0 c) else j_P F s o (s 10 - i).toNat i E l2 c) →
      w_T xs xl 266 20 [some (.ref 104), some (w_i d), some (w_i l2), some (w_i l3), some (w_i l4), u5, u6, u7] [] [] I1 J b Q := by
    intro q
    induction q using Nat.strongRecOn with
    | _ q ih =>
      intro d l2 l3 l4 i c E u5 u6 u7 I1 a0 a1 a2 a3 a4 a5 a6 a7 a8 a9 lo hi oh wfE fr e110 e138 e54 hr
      obtain ⟨e0, e1, e2, e3, e4, e7, e8, e9, e10⟩ := m_oh_f wf oh
      have wE0 := wfE.1.1
      -- a new day
      have newday : ∀ (l2 l3 l4 : Int) (u5 u6 u7 : Option Value) (I1 : w_I) (u2 u3 u4 : Option Value), w_fr pB I I1 → I1 110 = E → I1 138 = I 138 → I1 104 54 = c → (∀ j, i ≤ j → j < s 10 → d < s (550 + 3 * o j)) → R = j_P F s o (s 10 - i).toNat i E 0 c →
          w_T xs xl 266 7 [some (.ref 104), some (w_i (d + 1)), u2, u3, u4, u5, u6, u7] [] [] I1 J b Q := by
        intro l2 l3 l4 u5 u6 u7 I1 u2 u3 u4 fr e110 e138 e54 hd hr
        by_cases c1 : d + 1 < 100
        · refine b266_7 ?_
          try simp only [w_Ug, reduceIte, Nat.reduceEqDiff, Int.reduceEq, eq_self, if_true]
          repeat' (first | apply And.intro | intro)
          all_goals (try first | omega | contradiction | exact Or.inl trivial | exact Or.inr trivial)
          refine ih (100 * (100 - (d + 1)) + s 10).toNat (by omega) (d + 1) 0 (-1) 0 i c E _ _ _ I1 (by omega) (by omega) c1 (by omega) (by omega) (by omega) (by omega) a7 a8 (fun h => by omega) (fun j x y => ?_) (fun j x y => ?_) oh wfE fr e110 e138 e54 ?_
          · have := lo j x y
            omega
          · have := hd j x y
            have := ho.2.1 j (by omega) y
            unfold j_rk
            omega
          · rw [if_neg (fun h => by omega)]
            exact hr
        · have ei : i = s 10 := by
            apply Decidable.byContradiction
            intro hc
            have := hd i (by omega) (by omega)
            have oi := ho.2.1 i a7 (by omega)
            have := wm (o i) oi.1 oi.2
            omega
          rw [ei, show (s 10 - s 10).toNat = 0 by omega] at hr
          have hr : R = (0, E, c) := hr
          have kk := k I1 E oh fr e110 e138 (by rw [hr]) (by rw [hr]; exact e54)
          rw [hr] at kk
          refine b266_7 ?_
          try simp only [w_Ug, reduceIte, Nat.reduceEqDiff, Int.reduceEq, eq_self, if_true]
          repeat' (first | apply And.intro | intro)
          all_goals (try first | omega | contradiction | exact Or.inl trivial | exact Or.inr trivial)
      have hF1 := pB_F fr hF
      have cdE := m_cd_oh wf cd oh
      by_cases c0 : l4 < s 10
      · have mv1 := m_oh_mv wf oh (k := 550 + 3 * l4) (by omega)
        have mv2 := m_oh_mv wf oh (k := 550 + 3 * l4 + 1) (by omega)
        have mv3 := m_oh_mv wf oh (k := 550 + 3 * l4 + 2) (by omega)
        have wm4 := wm l4 a3 c0
        -- where it stands in the order
        obtain ⟨j, j0, j1, j2⟩ := ho.2.2.1 l4 ⟨a3, c0⟩
        by_cases c1 : s (550 + 3 * l4) = d
        · have ji : j = i := by
            apply Decidable.byContradiction
            intro hc
            by_cases h : j < i
            · have := lo j j0 h
              rw [j2] at this
              unfold j_rk at this
              omega
            · have h1 := hi i (Int.le_refl _) (by omega)
              have h2 := ho.2.2.2 i j a7 (by omega) j1
              rw [j2] at h2
              unfold j_rk at h1 h2
              omega
          subst ji
          rw [if_neg (fun h => h.2 ⟨j1, by rw [j2]; exact c1⟩), show (s 10 - j).toNat = (s 10 - (j + 1)).toNat + 1 by omega, j_P_s, j2] at hr
          refine b266_20 ?_
          try simp only [w_Ug, reduceIte, Nat.reduceEqDiff, Int.reduceEq, eq_self, e110, e10, mv1, mv2, mv3]
          repeat' (first | apply And.intro | intro)
          all_goals (try first | omega | contradiction | exact Or.inl trivial | exact Or.inr trivial)
          refine s211 e110 wfE.1 (by omega) (fun hf => ?_) (fun hf => ?_)
          · have hf1 := hf.1
            have hf2 := hf.2.1
            have w3 := wfE.1.2.2.2.1 _ hf1 hf2
            refine b266_84 ?_
            try simp only [w_Ug, reduceIte, Nat.reduceEqDiff, Int.reduceEq, eq_self, if_true]
            repeat' (first | apply And.intro | intro)
            all_goals (try first | omega | contradiction | exact Or.inl trivial | exact Or.inr trivial)
            refine s213 e110 (by omega) ?_
            by_cases c2 : 0 ≤ E (460 + 3 * s (550 + 3 * l4 + 1) + 1)
            · rw [if_neg (fun h => h ⟨hf, c2⟩)] at hr
              by_cases c3 : l2 = E 2
              · rw [if_pos (by omega)] at hr
                have kk := k I1 E oh fr e110 e138 (by rw [hr]) (by rw [hr]; exact e54)
                rw [hr] at kk
                refine b266_93 ?_
                try simp only [w_Ug, reduceIte, Nat.reduceEqDiff, Int.reduceEq, eq_self, e110]
                repeat' (first | apply And.intro | intro)
                all_goals (try first | omega | contradiction | exact Or.inl trivial | exact Or.inr trivial)
              · rw [if_neg (by omega)] at hr
                refine b266_93 ?_
                try simp only [w_Ug, reduceIte, Nat.reduceEqDiff, Int.reduceEq, eq_self, e110]
                repeat' (first | apply And.intro | intro)
                all_goals (try first | omega | contradiction | exact Or.inl trivial | exact Or.inr trivial)
                refine s214 e110 wfE.1 (by omega) (fun g hg eg => ?_) (fun em => ?_)
                · have dw := m_dw_f wfE hg eg (by omega)
                  have hg1 := hg.1
                  have hg2 := hg.2.1
                  rw [if_pos (by omega)] at hr
                  have kk := k I1 E oh fr e110 e138 (by rw [hr]) (by rw [hr]; exact e54)
                  rw [hr] at kk
                  refine b266_128 ?_
                  try simp only [w_Ug, reduceIte, Nat.reduceEqDiff, Int.reduceEq, eq_self, if_true]
                  repeat' (first | apply And.intro | intro)
                  all_goals (try first | omega | contradiction | exact Or.inl trivial | exact Or.inr trivial)
                · have dw := m_dw_e em
                  rw [if_neg (by omega)] at hr
                  refine b266_128 ?_
                  try simp only [w_Ug, reduceIte, Nat.reduceEqDiff, Int.reduceEq, eq_self, if_true]
                  repeat' (first | apply And.intro | intro)
                  all_goals (try first | omega | contradiction | exact Or.inl trivial | exact Or.inr trivial)
                  refine s265 e110 hF1 wfE cdE hf c2 (by omega) (fun I2 fr2 e54' e138' => ?_)
                  have e110' := pJ_s fr2 e110
                  rw [e54]
                  have hfs : m_isF s (s (550 + 3 * l4 + 1)) := (m_oh_i wf oh _).mp hf
                  have oh' : m_oh s (j_e s E l4) := m_oh_u wf oh hfs
                  have wf' : m_wf (j_e s E l4) := m_wf_home wfE hf (Or.inr ⟨by omega, by omega, em⟩)
                  have ejc : m_fcost F E (s (550 + 3 * l4 + 1)) (s (550 + 3 * l4 + 2)) = j_c F s E l4 := rfl
                  rw [ejc]
                  have e2' := (m_oh_f wf oh').2.2.1
                  refine b266_152 ?_
                  try simp only [w_Ug, reduceIte, Nat.reduceEqDiff, Int.reduceEq, eq_self, e110']
                  repeat' (first | apply And.intro | intro)
                  all_goals (try first | omega | contradiction | exact Or.inl trivial | exact Or.inr trivial)
                  refine ih (100 * (100 - d) + (s 10 - (l4 + 1))).toNat (by omega) d (l2 + 1) l4 (l4 + 1) (j + 1) (c + j_c F s E l4) (j_e s E l4) _ _ _ _ (by omega) a1 a2 (by omega) (by omega) (by omega) (by omega) (by omega) (by omega) (fun _ => ⟨a3, by omega⟩) (fun x y z => ?_) (fun x y z => ?_) oh' wf' (w_frU (w_frU (w_frt fr (pJ_B fr2)) rfl) rfl) ?_ ?_ ?_ ?_
                  · by_cases h : x = j
                    · rw [h, j2]
                      unfold j_rk
                      omega
                    · have := lo x y (by omega)
                      omega
                  · have h2 := ho.2.2.2 j x j0 (by omega) z
                    rw [j2] at h2
                    unfold j_rk at h2 ⊢
                    omega
                  · rw [w_U1, w_Ua (by decide), e110']
                  · rw [w_Ua (by decide), w_Ua (by decide), e138']
                    exact e138
                  · rw [w_Ua (by decide), w_Ug, if_pos rfl, if_pos rfl]
                  · by_cases h : j + 1 < s 10 ∧ s (550 + 3 * o (j + 1)) = d
                    · rw [if_neg (fun z => z.2 h)]
                      rw [if_pos ⟨h.1, by rw [h.2, c1]⟩] at hr
                      exact hr
                    · rw [if_pos ⟨by omega, h⟩]
                      rw [if_neg (fun z => h ⟨z.1, by rw [z.2, c1]⟩)] at hr
                      exact hr
            · rw [if_pos (fun h => c2 h.2)] at hr
              have kk := k I1 E oh fr e110 e138 (by rw [hr]) (by rw [hr]; exact e54)
              rw [hr] at kk
              refine b266_93 ?_
              try simp only [w_Ug, reduceIte, Nat.reduceEqDiff, Int.reduceEq, eq_self, e110]
              repeat' (first | apply And.intro | intro)
              all_goals (try first | omega | contradiction | exact Or.inl trivial | exact Or.inr trivial)
          · rw [if_pos (fun h => hf h.1)] at hr
            have kk := k I1 E oh fr e110 e138 (by rw [hr]) (by rw [hr]; exact e54)
            rw [hr] at kk
            refine b266_84 ?_
            try simp only [w_Ug, reduceIte, Nat.reduceEqDiff, Int.reduceEq, eq_self, if_true]
            repeat' (first | apply And.intro | intro)
            all_goals (try first | omega | contradiction | exact Or.inl trivial | exact Or.inr trivial)
        · refine b266_20 ?_
          try simp only [w_Ug, reduceIte, Nat.reduceEqDiff, Int.reduceEq, eq_self, e110, e10, mv1, mv2, mv3]
          repeat' (first | apply And.intro | intro)
          all_goals (try first | omega | contradiction | exact Or.inl trivial | exact Or.inr trivial)
          refine ih (100 * (100 - d) + (s 10 - (l4 + 1))).toNat (by omega) d l2 l3 (l4 + 1) i c E _ _ _ I1 (by omega) a1 a2 (by omega) (by omega) a5 a6 a7 a8 a9 (fun x y z => ?_) (fun x y z => ?_) oh wfE fr e110 e138 e54 hr
          · have := lo x y z
            omega
          · have h1 := hi x y z
            have : j_rk s (o x) ≠ 100 * d + l4 := fun h => by
              have ox := ho.2.1 x (by omega) z
              have := wm (o x) ox.1 ox.2
              unfold j_rk at h
              have e : o x = l4 := by omega
              rw [e] at h
              omega
            omega
      · have e : l4 = s 10 := by omega
        have hd : ∀ j, i ≤ j → j < s 10 → d < s (550 + 3 * o j) := fun j x y => by
          have := hi j x y
          have oj := ho.2.1 j (by omega) y
          unfold j_rk at this
          omega
        have ng : ¬ (i < s 10 ∧ s (550 + 3 * o i) = d) := fun h => by
          have := hd i (Int.le_refl _) h.1
          omega
        by_cases c2 : 0 < l2
        · rw [if_pos ⟨c2, ng⟩] at hr
          refine b266_20 ?_
          try simp only [w_Ug, reduceIte, Nat.reduceEqDiff, Int.reduceEq, eq_self, e110, e10]
          repeat' (first | apply And.intro | intro)
          all_goals (try first | omega | contradiction | exact Or.inl trivial | exact Or.inr trivial)
          have hu := s233 (F := F) (U := m_U F E 0 (E 3)) (wh := 0) (t := 0) (by' := E 3) (xs := xs) (xl := xl) (J := J) (b := b) (Q := fun v Ic Jc bc => w_T xs xl 266 194 [some (.ref 104), some (w_i d), some (w_i l2), some (w_i l3), some (w_i l4), u5, u6, u7] [] (w_pv v []) Ic Jc bc Q) e110 hF1 wfE cdE (by decide) (by omega) (by omega) (fun a d _ _ _ => m_U_iff) (fun I2 fr2 => ?_)
          · exact hu
          · have ea : (u_scan (m_U F E 0 (E 3)) (E 0) (-1) 700 0 1 0).2 = m_any F E := rfl
            rw [ea]
            have ab := m_any_b (s := E) (F := F)
            have fr2' := w_frt fr (pJ_B (pU_J fr2))
            have e110' := pJ_s (pU_J fr2) e110
            have e138' : I2 138 = I 138 := (w_frA fr2 (fun _ => rfl)).trans e138
            have e54' : I2 104 54 = c := by rw [fr2 104 54 rfl]; exact e54
            by_cases c3 : 0 < m_any F E
            · rw [if_pos c3] at hr
              have kk := k I2 E oh fr2' e110' e138' (by rw [hr]) (by rw [hr]; exact e54')
              rw [hr] at kk
              refine b266_194 ?_
              try simp only [w_Ug, reduceIte, Nat.reduceEqDiff, Int.reduceEq, eq_self, if_true]
              repeat' (first | apply And.intro | intro)
              all_goals (try first | omega | contradiction | exact Or.inl trivial | exact Or.inr trivial)
            · rw [if_neg c3] at hr
              refine b266_194 ?_
              try simp only [w_Ug, reduceIte, Nat.reduceEqDiff, Int.reduceEq, eq_self, if_true]
              repeat' (first | apply And.intro | intro)
              all_goals (try first | omega | contradiction | exact Or.inl trivial | exact Or.inr trivial)
              exact newday 0 0 0 _ _ _ I2 _ _ _ fr2' e110' e138' e54' hd hr
        · rw [if_neg (fun h => c2 h.1), show l2 = 0 by omega] at hr
          refine b266_20 ?_
          try simp only [w_Ug, reduceIte, Nat.reduceEqDiff, Int.reduceEq, eq_self, e110, e10]
          repeat' (first | apply And.intro | intro)
          all_goals (try first | omega | contradiction | exact Or.inl trivial | exact Or.inr trivial)
          exact newday 0 0 0 _ _ _ I1 _ _ _ fr e110 e138 e54 hd hr
  -- the first day
  refine b266_7 ?_
  try simp only [w_Ug, reduceIte, Nat.reduceEqDiff, Int.reduceEq, eq_self, if_true]
  repeat' (first | apply And.intro | intro)
  all_goals (try first | omega | contradiction | exact Or.inl trivial | exact Or.inr trivial)
  refine inner (10000 + s 10).toNat 0 0 (-1) 0 0 0 s _ _ _ _ (by omega) (by omega) (by omega) (by omega) (by omega) (by omega) (by omega) (by omega) (by omega) (fun h => by omega) (fun j x y => by omega) (fun j x y => ?_) m_oh_r wf (w_frU w_frr rfl) ?_ ?_ ?_ ?_
  · have oj := ho.2.1 j x y
    have := wm (o j) oj.1 oj.2
    unfold j_rk
    omega
  · rw [w_Ua (by decide)]; exact hs
  · rw [w_Ua (by decide)]
  · rw [w_Ug, if_pos rfl, if_pos rfl]
  · rw [if_neg (fun h => by omega), show s 10 - 0 = s 10 by omega]
    exact hR.symm
theorem s263 (hs : I 110 = s) (k : ∀ I', w_fr pJ I I' → (∀ f, 0 ≤ f → f < 30 → I' 138 f = s (460 + 3 * f + 1)) → Q none I' J b) : w_C xs xl 263 [.ref 104] I J b Q := by
  refine e263 (b263_0 ?_)
  have loop : ∀ (m : Nat) (l1 : Int) (I1 : w_I), l1 + m = 30 → 0 ≤ l1 → w_fr pJ I I1 → (∀ f, 0 ≤ f → f < l1 → I1 138 f = s (460 + 3 * f + 1)) → w_T xs xl 263 2 [some (.ref 104), some (w_i l1)] [] [] I1 J b Q := by
    intro m
    induction m with
    | zero =>
      intro l1 I1 a0 a1 a2 a3
      have kk := k I1 a2 (fun f x y => a3 f x (by omega))
      refine b263_2 ?_
      try simp only [w_Ug, reduceIte, Nat.reduceEqDiff, Int.reduceEq, eq_self, if_true]
      repeat' (first | apply And.intro | intro)
      all_goals (try first | omega | contradiction | exact Or.inl trivial | exact Or.inr trivial)
    | succ m ih =>
      intro l1 I1 a0 a1 a2 a3
      have hs1 := pJ_s a2 hs
      refine b263_2 ?_
      try simp only [w_Ug, reduceIte, Nat.reduceEqDiff, Int.reduceEq, eq_self, hs1]
      repeat' (first | apply And.intro | intro)
      all_goals (try first | omega | contradiction | exact Or.inl trivial | exact Or.inr trivial)
      refine ih (l1 + 1) _ (by omega) (by omega) (w_frU a2 rfl) (fun f x y => ?_)
      rw [w_Ug, if_pos rfl]
      by_cases e : f = l1
      · rw [if_pos e, e]
      · rw [if_neg e]; exact a3 f x (by omega)
  exact loop 30 0 I (by omega) (by omega) w_frr (fun f x y => by omega)
theorem s264 {E : Int → Int} (hE : I 110 = E) (wf : m_wf s) (h : m_oh s E) (hk : ∀ f, 0 ≤ f → f < 30 → I 138 f = s (460 + 3 * f + 1)) (k : ∀ I', w_fr p110 I I' → I' 110 = s → Q none I' J b) : w_C xs xl 264 [.ref 104] I J b Q := by
  have w0 := wf.1.1
  refine e264 (b264_0 ?_)
  have loop : ∀ (m : Nat) (l1 : Int) (I1 : w_I), l1 + m = 30 → 0 ≤ l1 → w_fr p110 I I1 → (∀ k, (∀ f, 0 ≤ f → f < 30 → k ≠ 460 + 3 * f + 1) → I1 110 k = s k) → (∀ f, 0 ≤ f → f < l1 → I1 110 (460 + 3 * f + 1) = s (460 + 3 * f + 1)) → w_T xs xl 264 2 [some (.ref 104), some (w_i l1)] [] [] I1 J b Q := by
    intro m
    induction m with
    | zero =>
      intro l1 I1 a0 a1 a2 a3 a4
      have kk := k I1 a2 (funext (fun x => by
        by_cases c : ∃ f, 0 ≤ f ∧ f < 30 ∧ x = 460 + 3 * f + 1
        · obtain ⟨f, f0, f1, f2⟩ := c
          rw [f2]
          exact a4 f f0 (by omega)
        · exact a3 x (fun f f0 f1 f2 => c ⟨f, f0, f1, f2⟩)))
      refine b264_2 ?_
      try simp only [w_Ug, reduceIte, Nat.reduceEqDiff, Int.reduceEq, eq_self, if_true]
      repeat' (first | apply And.intro | intro)
      all_goals (try first | omega | contradiction | exact Or.inl trivial | exact Or.inr trivial)
    | succ m ih =>
      intro l1 I1 a0 a1 a2 a3 a4
      have e138 : I1 138 l1 = s (460 + 3 * l1 + 1) := by rw [w_frA a2 (fun _ => rfl)]; exact hk l1 a1 (by omega)
      refine b264_2 ?_
      try simp only [w_Ug, reduceIte, Nat.reduceEqDiff, Int.reduceEq, eq_self, e138]
      repeat' (first | apply And.intro | intro)
      all_goals (try first | omega | contradiction | exact Or.inl trivial | exact Or.inr trivial)
      refine ih (l1 + 1) _ (by omega) (by omega) (w_frU a2 rfl) (fun x hx => ?_) (fun f x y => ?_)
      · rw [w_Ug, if_pos rfl, if_neg (hx l1 a1 (by omega))]
        exact a3 x hx
      · rw [w_Ug, if_pos rfl]
        by_cases e : f = l1
        · rw [if_pos (by omega), e]
        · rw [if_neg (by omega)]; exact a4 f x (by omega)
  refine loop 30 0 I (by omega) (by omega) w_frr (fun x hx => ?_) (fun f x y => by omega)
  rw [hE]
  refine h x (fun f hf => ?_)
  have := hf.1
  have := hf.2.1
  exact hx f (by omega) (by omega)
theorem s267 {F : m_F} {o : Int → Int} (hs : I 110 = s) (hF : m_at I F) (wf : m_wf s) (cd : m_cd F s) (ho : r_ok (s 10) o (j_S s) (j_rk s))
    (k : ∀ I', w_fr pB I I' → I' 110 = s → Q (some (w_i (j_P F s o (s 10).toNat 0 s 0 0).1)) I' J b) : w_C xs xl 267 [.ref 104] I J b Q := by
  refine e267 (b267_0 ?_)
  refine s263 hs (fun I1 fr1 k1 => b267_4 ?_)
  refine s266 (pJ_s fr1 hs) (pJ_F fr1 hF) wf cd ho (fun I2 E oh fr2 e110 e138 eE e54 => b267_8 ?_)
  refine s264 e110 wf oh (fun f x y => by rw [e138]; exact k1 f x y) (fun I3 fr3 e3 => b267_13 ?_)
  exact k I3 (w_frt (pJ_B fr1) (w_frt fr2 (p110_B fr3))) e3
theorem s268 {F : m_F} {o : Int → Int} (hs : I 110 = s) (hF : m_at I F) (wf : m_wf s) (cd : m_cd F s) (ho : r_ok (s 10) o (j_S s) (j_rk s))
    (k0 : (j_P F s o (s 10).toNat 0 s 0 0).1 ≠ 0 → ∀ I', w_fr pB I I' → I' 110 = s → Q (some (w_i (-2))) I' J b)
    (k1 : (j_P F s o (s 10).toNat 0 s 0 0).1 = 0 → ∀ I', w_fr pB I I' → I' 110 = u1 (j_P F s o (s 10).toNat 0 s 0 0).2.1 10 0 → Q (some (w_i (j_P F s o (s 10).toNat 0 s 0 0).2.2)) I' J b) : w_C xs xl 268 [.ref 104] I J b Q := by
  have w0 := wf.1.1
  have jb := j_P_b (F := F) ho (by omega) (s 10).toNat 0 0 0 s (by omega) (by omega)
  refine e268 (b268_0 ?_)
  refine s263 hs (fun I1 fr1 h1 => b268_4 ?_)
  refine s266 (pJ_s fr1 hs) (pJ_F fr1 hF) wf cd ho (fun I2 E oh fr2 e110 e138 eE e54 => ?_)
  generalize j_P F s o (s 10).toNat 0 s 0 0 = R at *
  by_cases c : R.1 = 0
  · have kk := k1 c (w_U I2 110 10 0) (w_frt (pJ_B fr1) (w_frU fr2 rfl)) (by rw [w_U1, e110, eE])
    refine b268_8 ?_
    try simp only [w_Ug, reduceIte, Nat.reduceEqDiff, Int.reduceEq, eq_self, e54]
    repeat' (first | apply And.intro | intro)
    all_goals (try first | omega | contradiction | exact Or.inl trivial | exact Or.inr trivial)
  · refine b268_8 ?_
    try simp only [w_Ug, reduceIte, Nat.reduceEqDiff, Int.reduceEq, eq_self, e54]
    repeat' (first | apply And.intro | intro)
    all_goals (try first | omega | contradiction | exact Or.inl trivial | exact Or.inr trivial)
    refine s264 e110 wf oh (fun f x y => by rw [e138]; exact h1 f x y) (fun I3 fr3 e3 => b268_15 ?_)
    exact k0 c I3 (w_frt (pJ_B fr1) (w_frt fr2 (p110_B fr3))) e3
end
