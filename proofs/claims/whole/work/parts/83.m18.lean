section
/-! two families as one: the reference -/
variable {xs : Nat → Int32} {xl : Nat} {I J : w_I} {b : Bool} {Q : Option Value → w_I → w_I → Bool → Prop}
variable {s : Int → Int}
theorem m_sz2 (w : m_w0 s) {f g : Int} (hfg : f ≠ g) (hf : 0 ≤ f) (hg : 0 ≤ g) : m_sz s f g = m_sz s f (-1) + m_sz s g (-1) := by
  have w0 := w.1
  unfold m_sz
  rw [← m_sum_add]
  refine m_sum_c _ (fun i hi => ?_)
  have wp := w.2.2.1 i (by omega) (by omega)
  try dsimp only
  simp only [m_in]
  by_cases c : s (100 + 6 * (i : Int)) = 1
  · by_cases c1 : s (100 + 6 * (i : Int) + 5) = f
    · rw [if_pos ⟨c, Or.inl c1⟩, if_pos ⟨c, Or.inl c1⟩, if_neg (fun z => by omega)]
      rfl
    · by_cases c2 : s (100 + 6 * (i : Int) + 5) = g
      · rw [if_pos ⟨c, Or.inr c2⟩, if_neg (fun z => by omega), if_pos ⟨c, Or.inl c2⟩]
        rfl
      · rw [if_neg (fun z => by omega), if_neg (fun z => by omega), if_neg (fun z => by omega)]
        rfl
  · rw [if_neg (fun z => c z.1), if_neg (fun z => c z.1), if_neg (fun z => c z.1)]
    rfl
theorem m_wed_fam {f g hh : Int} (wf : m_wf s) (h : m_wk s f g hh) {x y : Int} (hx : 0 ≤ x) (hxg : x ≠ g) (hy : y = if x = f then g else -1) : m_ga (m_wed s f g hh) x = m_ag s x y 0 (s 3) ∧ m_gs (m_wed s f g hh) x = m_sz s x y ∧ m_gl (m_wed s f g hh) x = m_lm s x y := by
  have w0 := wf.1.1
  have hf1 := h.2.1.1.1
  have hg1 := h.2.2.1.1.1
  obtain ⟨c1, c2, -, -⟩ := m_wed_c wf h
  obtain ⟨hT, e7, e8, e9⟩ := m_wed_T wf h
  have e3 := hT 3 (by omega)
  generalize m_wed s f g hh = E at *
  have cell : ∀ c, 100 ≤ c → c < 460 → (∀ p, 0 ≤ p → p < s 7 → c ≠ 100 + 6 * p + 5) → E c = s c := fun c a1 a2 a3 => c1 c a3 (by omega) (by omega)
  have al : ∀ p, 0 ≤ p → p < s 7 → E (100 + 6 * p) = s (100 + 6 * p) := fun p a1 a2 => cell _ (by omega) (by omega) (fun q _ _ => by omega)
  have mi : ∀ p, 0 ≤ p → p < s 7 → (m_in E x (-1) p ↔ m_in s x y p) := fun p a1 a2 => by
    have c2 := c2 p a1 a2
    have wp := wf.1.2.2.1 p a1 a2
    simp only [m_in]
    rw [al p a1 a2, c2, hy]
    by_cases d : s (100 + 6 * p) = 1 ∧ s (100 + 6 * p + 5) = g
    · rw [if_pos d]
      by_cases d2 : x = f
      · rw [if_pos d2]; omega
      · rw [if_neg d2]; omega
    · rw [if_neg d]
      by_cases d2 : x = f
      · rw [if_pos d2]; omega
      · rw [if_neg d2]
  have pa : ∀ p, 0 ≤ p → p < s 7 → m_pa E p 0 = m_pa s p 0 := fun p a1 a2 => by
    unfold m_pa
    rw [if_pos rfl, cell (100 + 6 * p + 2) (by omega) (by omega) (fun q _ _ => by omega), cell (100 + 6 * p + 4) (by omega) (by omega) (fun q _ _ => by omega), e9]
  have z1 : m_sz E x (-1) = m_sz s x y := by
    unfold m_sz
    rw [e7]
    refine m_sum_c _ (fun i hi => ?_)
    try dsimp only
    simp only [mi i (by omega) (by omega)]
  have z2 : m_lm E x (-1) = m_lm s x y := by
    unfold m_lm
    rw [e7]
    refine m_sum_c _ (fun i hi => ?_)
    try dsimp only
    rw [cell (100 + 6 * (i : Int) + 3) (by omega) (by omega) (fun q _ _ => by omega)]
    simp only [mi i (by omega) (by omega)]
  have z3 : m_mo E x (-1) 0 = m_mo s x y 0 := by
    unfold m_mo
    rw [e7]
    refine m_mx_c _ (fun i hi => ?_)
    try dsimp only
    rw [pa i (by omega) (by omega)]
    simp only [mi i (by omega) (by omega)]
  have z4 : m_sm E x (-1) 0 = m_sm s x y 0 := by
    unfold m_sm
    rw [e7]
    refine m_sum_c _ (fun i hi => ?_)
    try dsimp only
    rw [pa i (by omega) (by omega)]
    simp only [mi i (by omega) (by omega)]
  refine ⟨?_, z1, z2⟩
  unfold m_ga m_ag
  rw [e3, z1, z3, z4]
theorem m_wed_S {f g hh : Int} (wf : m_wf s) (h : m_wk s f g hh) (x : Int) : (m_isF (m_wed s f g hh) x ∧ 0 ≤ m_wed s f g hh (460 + 3 * x + 1)) ↔ (m_lvg s x ∧ x ≠ g) := by
  have w0 := wf.1.1
  have hf1 := h.2.1.1.1
  have hf3 := h.2.1.1.2.2
  have hg1 := h.2.2.1.1.1
  obtain ⟨c1, c2, c3, c4⟩ := m_wed_c wf h
  obtain ⟨hT, e7, e8, e9⟩ := m_wed_T wf h
  have hb : 0 ≤ hh := by
    have := h.2.1.2
    have := h.2.2.1.2
    have := h.2.2.2.2
    omega
  generalize m_wed s f g hh = E at *
  have fl : x ≠ g → 0 ≤ x → E (460 + 3 * x) = s (460 + 3 * x) := fun a1 a2 => c1 _ (fun p _ _ => by omega) (by omega) (by omega)
  have hm : x ≠ f → 0 ≤ x → E (460 + 3 * x + 1) = s (460 + 3 * x + 1) := fun a1 a2 => c1 _ (fun p _ _ => by omega) (by omega) (by omega)
  constructor
  · rintro ⟨⟨a1, a2, a3⟩, a4⟩
    have hxg : x ≠ g := fun e => c4 (e ▸ ⟨a1, a2, a3⟩)
    rw [e8] at a2
    rw [fl hxg a1] at a3
    refine ⟨⟨⟨a1, a2, a3⟩, ?_⟩, hxg⟩
    by_cases e : x = f
    · rw [e]; exact h.2.1.2
    · rw [hm e a1] at a4; exact a4
  · rintro ⟨⟨⟨a1, a2, a3⟩, a4⟩, hxg⟩
    refine ⟨⟨a1, by rw [e8]; exact a2, by rw [fl hxg a1]; exact a3⟩, ?_⟩
    by_cases e : x = f
    · rw [e, c3]; exact hb
    · rw [hm e a1]; exact a4
set_option maxHeartbeats 8000000 in
theorem s275 {F : m_F} {f g l n : Int} {r : Int → Int} (hs : I 110 = s) (hF : m_at I F) (wf : m_wf s) (cd : m_cd F s) (hf : w_in f) (hg : w_in g) (hl : w_in l)
    (hr : ¬ m_tt s → ∀ hh, (l = 0 → hh = s (460 + 3 * f + 1)) → (l ≠ 0 → hh = s (460 + 3 * g + 1)) → m_wk s f g hh → r_ok n r (m_S (m_wed s f g hh) (-1)) (m_rk (m_wed s f g hh) (m_kf (m_wed s f g hh) (s 1))))
    (kN : ¬ (f ≠ g ∧ m_lvg s f ∧ m_lvg s g) → Q (some (w_i (-1))) I J b) (k0 : f ≠ g ∧ m_lvg s f ∧ m_lvg s g → m_tt s ∨ 6 < m_sz s f (-1) + m_sz s g (-1) → ∀ I', w_fr pJ I I' → Q (some (w_i (-2))) I' J b)
    (k1 : ¬ m_tt s → ∀ hh, (l = 0 → hh = s (460 + 3 * f + 1)) → (l ≠ 0 → hh = s (460 + 3 * g + 1)) → m_wk s f g hh → ∀ I', w_fr pJ I I' → Q (some (w_i (m_anw (m_wed s f g hh) n r))) I' J b) : w_C xs xl 275 [.ref 104, w_i f, w_i g, w_i l] I J b Q := by
  have w := wf.1
  have w0 := w.1
  refine e275 (b275_0 ?_)
  refine s274 hs w hf (fun c2 => ?_) (fun c2 => ?_)
  · refine b275_5 ?_
    try simp only [w_Ug, reduceIte, Nat.reduceEqDiff, Int.reduceEq, eq_self, if_true]
    repeat' (first | apply And.intro | intro)
    all_goals (try first | omega | contradiction | exact Or.inl trivial | exact Or.inr trivial)
    refine s274 hs w hg (fun c3 => ?_) (fun c3 => ?_)
    · have hf1 := c2.1.1
      have hf2 := c2.1.2.1
      have hg1 := c3.1.1
      have hg2 := c3.1.2.1
      have w3f := w.2.2.2.1 f hf1 hf2
      have w3g := w.2.2.2.1 g hg1 hg2
      by_cases c1 : f = g
      · have kk := kN (fun x => x.1 c1)
        refine b275_13 ?_
        try simp only [w_Ug, reduceIte, Nat.reduceEqDiff, Int.reduceEq, eq_self, if_true]
        repeat' (first | apply And.intro | intro)
        all_goals (try first | omega | contradiction | exact Or.inl trivial | exact Or.inr trivial)
      · have sz2 := m_sz2 w c1 hf1 hg1
        have szb := m_sz_b w (f := f) (g := g)
        refine b275_13 ?_
        try simp only [w_Ug, reduceIte, Nat.reduceEqDiff, Int.reduceEq, eq_self, hs]
        repeat' (first | apply And.intro | intro)
        all_goals (try first | omega | contradiction | exact Or.inl trivial | exact Or.inr trivial)
        refine s216 hs w (by omega) (by omega) (by decide) (by omega) (fun I1 fr1 e33 e34 e35 => ?_)
        have fr1' := p216_J fr1
        have hs1 := pJ_s fr1' hs
        have hF1 := pJ_F fr1' hF
        by_cases c4 : 6 < m_sz s f g
        · have kk := k0 ⟨c1, c2, c3⟩ (Or.inr (by omega)) I1 fr1'
          refine b275_36 ?_
          try simp only [w_Ug, reduceIte, Nat.reduceEqDiff, Int.reduceEq, eq_self, e33]
          repeat' (first | apply And.intro | intro)
          all_goals (try first | omega | contradiction | exact Or.inl trivial | exact Or.inr trivial)
        · refine b275_36 ?_
          try simp only [w_Ug, reduceIte, Nat.reduceEqDiff, Int.reduceEq, eq_self, e33]
          repeat' (first | apply And.intro | intro)
          all_goals (try first | omega | contradiction | exact Or.inl trivial | exact Or.inr trivial)
          refine s236 hs1 w (fun ht => ?_) (fun ht => ?_)
          · have kk := k0 ⟨c1, c2, c3⟩ (Or.inl ht) I1 fr1'
            refine b275_49 ?_
            try simp only [w_Ug, reduceIte, Nat.reduceEqDiff, Int.reduceEq, eq_self, if_true]
            repeat' (first | apply And.intro | intro)
            all_goals (try first | omega | contradiction | exact Or.inl trivial | exact Or.inr trivial)
          · have ⟨hh, q1, q2⟩ : ∃ hh, (l = 0 → hh = s (460 + 3 * f + 1)) ∧ (l ≠ 0 → hh = s (460 + 3 * g + 1)) := by
              by_cases c5 : l = 0
              · exact ⟨_, fun _ => rfl, fun x => absurd c5 x⟩
              · exact ⟨_, fun x => absurd x c5, fun _ => rfl⟩
            have hk : m_wk s f g hh := ⟨c1, c2, c3, by omega, by omega⟩
            have hr := hr ht hh q1 q2 hk
            have k1 := k1 ht hh q1 q2 hk
            have wfE := m_wf_wed wf hk
            have fam := fun x y => m_wed_fam wf hk (x := x) (y := y)
            have Sx := m_wed_S wf hk
            obtain ⟨hT, t7, t8, t9⟩ := m_wed_T wf hk
            obtain ⟨cc1, cc2, cc3, cc4⟩ := m_wed_c wf hk
            have e1 := hT 1 (by omega)
            have e0 := hT 0 (by omega)
            generalize m_wed s f g hh = E at *
            have hmE : ∀ x, m_lvg s x → x ≠ g → m_hm E x = if x = f then hh else s (460 + 3 * x + 1) := fun x hx hxg => by
              have a := (Sx x).mpr ⟨hx, hxg⟩
              have : m_hm E x = E (460 + 3 * x + 1) := by unfold m_hm; rw [if_neg (by omega)]
              rw [this]
              by_cases e : x = f
              · rw [if_pos e, e]; exact cc3
              · rw [if_neg e]
                have := hx.1.1
                exact cc1 _ (fun p _ _ => by omega) (by omega) (by omega)
            refine b275_49 ?_
            try simp only [w_Ug, reduceIte, Nat.reduceEqDiff, Int.reduceEq, eq_self, if_true]
            repeat' (first | apply And.intro | intro)
            all_goals (try first | omega | contradiction | exact Or.inl trivial | exact Or.inr trivial)
            have loop : ∀ (m : Nat) (l4 n' : Int) (I2 : w_I), l4 + m = s 8 → 0 ≤ l4 → n' ≤ l4 → w_fr pJ I I2 → I2 104 36 = n' → q_ok I2 n' (fun x => (m_lvg s x ∧ x ≠ g) ∧ x < l4) (m_kf E (s 1)) (m_hm E) (m_ga E) (m_gs E) (m_gl E) →
                w_T xs xl 275 63 [some (.ref 104), some (w_i f), some (w_i g), some (w_i l), some (w_i l4)] [] [] I2 J b Q := by
              intro m
              induction m with
              | zero =>
                intro l4 n' I2 a0 a1 a2 a3 a4 a5
                have hs2 := pJ_s a3 hs
                have hF2 := pJ_F a3 hF
                have q3 : q_ok I2 n' (m_S E (-1)) (m_kf E (s 1)) (m_hm E) (m_ga E) (m_gs E) (m_gl E) := by
                  refine ⟨r_ext a5.1 (fun _ _ _ => rfl) (fun x => ?_), a5.2⟩
                  unfold m_S
                  constructor
                  · intro h; exact Or.inl ((Sx x).mpr h.1)
                  · intro h
                    rcases h with h | h
                    · have h' := (Sx x).mp h
                      exact ⟨h', by have := h'.1.1.2.1; omega⟩
                    · exact absurd rfl h.2
                have ru := r_uniq (q_m_rk (s := E) (kf := m_kf E (s 1)) ▸ q3.1) hr (m_S_inj wfE (Or.inl rfl) (fun x _ => by have := m_kf_b wfE.1 (st := s 1) (g := x) (by omega); omega))
                obtain ⟨ru1, ru2⟩ := ru
                have nb := m_row_b wfE hr
                have n0 := hr.1
                rw [ru1] at a4 q3 ru2
                have qin := q_q_in wfE.1 q3 (m_S_in (Or.inl rfl))
                refine b275_63 ?_
                try simp only [w_Ug, reduceIte, Nat.reduceEqDiff, Int.reduceEq, eq_self, hs2]
                repeat' (first | apply And.intro | intro)
                all_goals (try first | omega | contradiction | exact Or.inl trivial | exact Or.inr trivial)
                refine s243 hs2 hF2 w cd a4 (by omega) (Or.inl rfl) qin (fun I3 fr3 t3 => ?_)
                have k1 := k1 I3 (w_frt a3 (pL_J fr3))
                have ew := (l_D_w (s := s) (F := F) (hm := I2 128) (ag := I2 129) (sz := I2 130) (lm := I2 131) (n := n) (H := s 0) (by omega) (fun i x y => (qin i x y).1.1)).2 (by omega)
                rw [ew]
                have hm : ∀ i, 0 ≤ i → i < n → I2 128 i = m_hm E (r i) := fun i x y => by rw [(q3.2 i x y).2.1, ru2 i x y]
                have ct : l_ct (I2 128) n.toNat 0 = n := by
                  have := l_ct_all (hm := I2 128) n.toNat 0 (fun j x y => by
                    have rh := m_row_h wfE hr (i := j) x (by omega)
                    rw [hm j x (by omega)]
                    omega)
                  omega
                have wc : l_w (fun i => I2 128 i - i) (s 0 - n) n.toNat 0 0 = l_w (fun i => m_hm E (r i) - i) (s 0 - n) n.toNat 0 0 := l_w_c _ _ _ (fun j x y => by rw [hm j x (by omega)])
                rw [ct, wc]
                have wb := l_w_b (x := fun i => m_hm E (r i) - i) (sl := s 0 - n) n.toNat 0 0
                unfold m_anw at k1
                rw [e0] at k1
                generalize l_w (fun i => m_hm E (r i) - i) (s 0 - n) n.toNat 0 0 = W at k1 wb ⊢
                rw [← show 1000000 * (n - W) / 1000000 = n - W by omega] at k1
                refine b275_187 ?_
                try simp only [w_Ug, reduceIte, Nat.reduceEqDiff, Int.reduceEq, eq_self, if_true]
                repeat' (first | apply And.intro | intro)
                all_goals (try first | omega | contradiction | exact Or.inl trivial | exact Or.inr trivial)
              | succ m ih =>
                intro l4 n' I2 a0 a1 a2 a3 a4 a5
                have hs2 := pJ_s a3 hs
                have skip : ¬ (m_lvg s l4 ∧ l4 ≠ g) → w_T xs xl 275 63 [some (.ref 104), some (w_i f), some (w_i g), some (w_i l), some (w_i (l4 + 1))] [] [] I2 J b Q := by
                  intro hn
                  refine ih (l4 + 1) n' I2 (by omega) (by omega) (by omega) a3 a4 ⟨r_ext a5.1 (fun _ _ _ => rfl) (fun x => ?_), a5.2⟩
                  constructor
                  · intro h; exact ⟨h.1, by have := h.2; omega⟩
                  · intro h
                    refine ⟨h.1, ?_⟩
                    have := h.2
                    by_cases e : x = l4
                    · exact absurd (e ▸ h.1) hn
                    · omega
                refine b275_63 ?_
                try simp only [w_Ug, reduceIte, Nat.reduceEqDiff, Int.reduceEq, eq_self, hs2]
                repeat' (first | apply And.intro | intro)
                all_goals (try first | omega | contradiction | exact Or.inl trivial | exact Or.inr trivial)
                refine s274 hs2 w (by omega) (fun x1 => ?_) (fun x1 => ?_)
                · by_cases x2 : l4 = g
                  · have sk := skip (fun z => z.2 x2)
                    refine b275_81 ?_
                    try simp only [w_Ug, reduceIte, Nat.reduceEqDiff, Int.reduceEq, eq_self, if_true]
                    repeat' (first | apply And.intro | intro)
                    all_goals (try first | omega | contradiction | exact Or.inl trivial | exact Or.inr trivial)
                  · have hm4 := hmE l4 x1 x2
                    have wl := w.2.2.2.1 l4 a1 (by omega)
                    -- laid: what is put in
                    have put : ∀ (I3 : w_I), w_fr p216 I2 I3 → I3 104 33 = m_gs E l4 → I3 104 34 = m_gl E l4 → I3 104 35 = m_ga E l4 → w_C xs xl 237 [.ref 104, w_i l4, w_i (m_ga E l4 / s 1), w_i (m_hm E l4), w_i (I3 104 35), w_i (I3 104 33), w_i (I3 104 34)] I3 J b (fun v Ic Jc bc => w_T xs xl 275 170 [some (.ref 104), some (w_i f), some (w_i g), some (w_i l), some (w_i l4)] [] (w_pv v []) Ic Jc bc Q) := by
                      intro I3 fr3 y1 y2 y3
                      rw [y1, y2, y3]
                      have n3 : I3 104 36 = n' := by rw [fr3 104 36 rfl]; exact a4
                      have q3 : q_ok I3 n' (fun x => (m_lvg s x ∧ x ≠ g) ∧ x < l4) (m_kf E (s 1)) (m_hm E) (m_ga E) (m_gs E) (m_gl E) := by
                        unfold q_ok
                        rw [w_frA (a := 126) fr3 (fun _ => rfl), w_frA (a := 127) fr3 (fun _ => rfl), w_frA (a := 128) fr3 (fun _ => rfl), w_frA (a := 129) fr3 (fun _ => rfl), w_frA (a := 130) fr3 (fun _ => rfl), w_frA (a := 131) fr3 (fun _ => rfl)]
                        exact a5
                      have inE := (Sx l4).mpr ⟨x1, x2⟩
                      refine s237q (f := l4) n3 (by omega) q3 (fun x hx => ?_) ⟨?_, ?_⟩ (fun I4 fr4 n4 q4 => b275_170 ?_)
                      · have kx := m_kf_b wfE.1 (st := s 1) (g := x) (by omega)
                        have inx := (Sx x).mpr hx.1
                        have hx2 := hx.2
                        have b1 := m_hm_b wfE.1 inx.1
                        have z1 : m_hm E x = E (460 + 3 * x + 1) := by unfold m_hm; rw [if_neg (by omega)]
                        have z2 : m_hm E l4 = E (460 + 3 * l4 + 1) := by unfold m_hm; rw [if_neg (by omega)]
                        refine ⟨by omega, by omega, fun e => ?_⟩
                        have := wfE.2.2.2 x l4 inx.1 inE.1 inx.2 (by omega)
                        omega
                      · have := m_kf_b wfE.1 (st := s 1) (g := l4) (by omega)
                        omega
                      · have := m_hm_b wfE.1 inE.1
                        omega
                      · refine ih (l4 + 1) (n' + 1) I4 (by omega) (by omega) (by omega) (w_frt a3 (w_frt (p216_J fr3) (p237_J fr4))) n4 ⟨r_ext q4.1 (fun _ _ _ => rfl) (fun x => ?_), q4.2⟩
                        constructor
                        · intro h
                          rcases h with h | h
                          · exact ⟨h.1, by have := h.2; omega⟩
                          · rw [h]; exact ⟨⟨x1, x2⟩, by omega⟩
                        · intro h
                          by_cases e : x = l4
                          · exact Or.inr e
                          · exact Or.inl ⟨h.1, by have := h.2; omega⟩
                    have gab := m_ga_b wfE.1 (f := l4)
                    by_cases x3 : l4 = f
                    · obtain ⟨fa1, fa2, fa3⟩ := fam l4 g a1 x2 (by rw [if_pos x3])
                      rw [if_pos x3] at hm4
                      subst x3
                      refine b275_81 ?_
                      try simp only [w_Ug, reduceIte, Nat.reduceEqDiff, Int.reduceEq, eq_self, hs2]
                      repeat' (first | apply And.intro | intro)
                      all_goals (try first | omega | contradiction | exact Or.inl trivial | exact Or.inr trivial)
                      refine s216 hs2 w (by omega) (by omega) (by decide) (by omega) (fun I3 fr3 y1 y2 y3 => ?_)
                      have hs3 := pJ_s (p216_J fr3) hs2
                      have pt := put I3 fr3 (y1.trans fa2.symm) (y2.trans fa3.symm) (y3.trans fa1.symm)
                      have y3' := y3.trans fa1.symm
                      by_cases x4 : l = 0
                      · have hhf := q1 x4
                        refine b275_117 ?_
                        try simp only [w_Ug, reduceIte, Nat.reduceEqDiff, Int.reduceEq, eq_self, hs3, y3']
                        repeat' (first | apply And.intro | intro)
                        all_goals (try first | omega | contradiction | exact Or.inl trivial | exact Or.inr trivial)
                        refine s213 hs3 (by omega) (b275_155 ?_)
                        rw [hm4, hhf] at pt
                        exact pt
                      · have hhg := q2 x4
                        refine b275_117 ?_
                        try simp only [w_Ug, reduceIte, Nat.reduceEqDiff, Int.reduceEq, eq_self, hs3, y3']
                        repeat' (first | apply And.intro | intro)
                        all_goals (try first | omega | contradiction | exact Or.inl trivial | exact Or.inr trivial)
                        refine s213 hs3 (by omega) (b275_146 ?_)
                        rw [hm4, hhg] at pt
                        exact pt
                    · obtain ⟨fa1, fa2, fa3⟩ := fam l4 (-1) a1 x2 (by rw [if_neg x3])
                      rw [if_neg x3] at hm4
                      refine b275_81 ?_
                      try simp only [w_Ug, reduceIte, Nat.reduceEqDiff, Int.reduceEq, eq_self, hs2]
                      repeat' (first | apply And.intro | intro)
                      all_goals (try first | omega | contradiction | exact Or.inl trivial | exact Or.inr trivial)
                      refine s216 hs2 w (by omega) (by decide) (by decide) (by omega) (fun I3 fr3 y1 y2 y3 => ?_)
                      have hs3 := pJ_s (p216_J fr3) hs2
                      have pt := put I3 fr3 (y1.trans fa2.symm) (y2.trans fa3.symm) (y3.trans fa1.symm)
                      have y3' := y3.trans fa1.symm
                      refine b275_117 ?_
                      try simp only [w_Ug, reduceIte, Nat.reduceEqDiff, Int.reduceEq, eq_self, hs3, y3']
                      repeat' (first | apply And.intro | intro)
                      all_goals (try first | omega | contradiction | exact Or.inl trivial | exact Or.inr trivial)
                      refine s213 hs3 (by omega) (b275_155 ?_)
                      rw [hm4] at pt
                      exact pt
                · have sk := skip (fun z => x1 z.1)
                  refine b275_81 ?_
                  try simp only [w_Ug, reduceIte, Nat.reduceEqDiff, Int.reduceEq, eq_self, if_true]
                  repeat' (first | apply And.intro | intro)
                  all_goals (try first | omega | contradiction | exact Or.inl trivial | exact Or.inr trivial)
            refine loop (s 8).toNat 0 0 _ (by omega) (by omega) (by omega) (w_frU fr1' rfl) (by rw [w_Ug, if_pos rfl, if_pos rfl]) ⟨r_nil (fun x h => by have := h.1.1.1.1; have := h.2; omega), fun i x y => by omega⟩
    · have kk := kN (fun x => c3 x.2.2)
      refine b275_13 ?_
      try simp only [w_Ug, reduceIte, Nat.reduceEqDiff, Int.reduceEq, eq_self, if_true]
      repeat' (first | apply And.intro | intro)
      all_goals (try first | omega | contradiction | exact Or.inl trivial | exact Or.inr trivial)
  · have kk := kN (fun x => c2 x.2.1)
    refine b275_5 ?_
    try simp only [w_Ug, reduceIte, Nat.reduceEqDiff, Int.reduceEq, eq_self, if_true]
    repeat' (first | apply And.intro | intro)
    all_goals (try first | omega | contradiction | exact Or.inl trivial | exact Or.inr trivial)
end
