section
/-! call part: the reference -/
variable {xs : Nat → Int32} {xl : Nat} {I J : w_I} {b : Bool} {Q : Option Value → w_I → w_I → Bool → Prop}
variable {s : Int → Int}
theorem s259 {S M : Int} (hM : 0 ≤ M ∧ M ≤ 12) (hS : 0 ≤ S ∧ S < pw2 M) (k : Q (some (w_i (a_bits S M.toNat))) I J b) : w_C xs xl 259 [w_i S] I J b Q := by
  have pm := pw2_le hM
  have e12 := a_bits_12 (S := S) (M := M.toNat) (by rw [show ((M.toNat : Nat) : Int) = M by omega]; exact hS) (12 - M.toNat)
  rw [show M.toNat + (12 - M.toNat) = 12 by omega] at e12
  rw [← e12] at k
  refine e259 (b259_0 ?_)
  have loop : ∀ (m q : Nat), q + m = 12 → w_T xs xl 259 4 [some (w_i S), some (w_i (a_bits S q)), some (w_i q)] [] [] I J b Q := by
    intro m
    induction m with
    | zero =>
      intro q a0
      have e : q = 12 := by omega
      subst e
      have bb := a_bits_b (S := S) (M := 12)
      refine b259_4 ?_
      try simp only [w_Ug, reduceIte, Nat.reduceEqDiff, Int.reduceEq, eq_self, if_true]
      repeat' (first | apply And.intro | intro)
      all_goals (try first | omega | contradiction | exact Or.inl trivial | exact Or.inr trivial)
    | succ m ih =>
      intro q a0
      have bb := a_bits_b (S := S) (M := q)
      have e := w_shr_d (x := S) (j := q) (by omega) (by omega)
      refine b259_4 ?_
      try simp only [w_Ug, reduceIte, Nat.reduceEqDiff, Int.reduceEq, eq_self, if_true]
      repeat' (first | apply And.intro | intro)
      all_goals (try first | omega | contradiction | exact Or.inl trivial | exact Or.inr trivial)
      rw [e, w_and1, show (q : Int) + 1 = ((q + 1 : Nat) : Int) by omega]
      exact ih (q + 1) (by omega)
  exact loop 12 0 (by omega)
def p258 (a : Nat) (k : Int) : Bool := p257 a k || (a == 104 && k == 52)
theorem p257_258 {I I' : w_I} (h : w_fr p257 I I') : w_fr p258 I I' := w_frm h (fun a k e => by
  simp only [p258, Bool.or_eq_false_iff] at e
  exact e.1)
theorem p258_J {I I' : w_I} (h : w_fr p258 I I') : w_fr pJ I I' := w_frm h (fun a k e => by
  simp only [pJ, p258, p257, pL, pC, p205, Bool.or_eq_false_iff, Bool.and_eq_false_iff, beq_eq_false_iff_ne, ne_eq, ble_f, decide_eq_false_iff_not] at e ⊢
  omega)
theorem a_lt_fr8 {I I' : w_I} (h : w_fr p258 I I') (lt : a_lt I s) : a_lt I' s ∧ a_o I' = a_o I := by
  have e4 := w_frA (a := 134) h (fun _ => rfl)
  have e6 := w_frA (a := 136) h (fun _ => rfl)
  refine ⟨?_, ?_⟩
  · unfold a_lt
    rw [h 104 46 rfl, e4, e6]
    exact lt
  · funext q
    unfold a_o
    rw [e4, e6]
/-- what the sets below S have said -/
def a_sf (T1 T2 : Int) (v1 v2 ix : Int → Int) (M : Nat) (S best sg : Int) : Prop :=
  (best = -2 ∧ ∀ x, 0 ≤ x → x < S → 1000 ≤ a_V T1 T2 v1 v2 ix M x) ∨
  ((0 ≤ sg ∧ sg < S) ∧ a_V T1 T2 v1 v2 ix M sg ≤ 24 ∧ best = a_V T1 T2 v1 v2 ix M sg ∧ ∀ x, 0 ≤ x → x < S → a_V T1 T2 v1 v2 ix M x < 1000 → 65536 * a_V T1 T2 v1 v2 ix M sg + 4096 * a_bits sg M + sg ≤ 65536 * a_V T1 T2 v1 v2 ix M x + 4096 * a_bits x M + x)
theorem a_sf_skip {T1 T2 : Int} {v1 v2 ix : Int → Int} {M : Nat} {S best sg : Int} (h : a_sf T1 T2 v1 v2 ix M S best sg) (n : a_V T1 T2 v1 v2 ix M S < 1000 → 0 ≤ best ∧ 65536 * best + 4096 * a_bits sg M + sg ≤ 65536 * a_V T1 T2 v1 v2 ix M S + 4096 * a_bits S M + S) : a_sf T1 T2 v1 v2 ix M (S + 1) best sg := by
  rcases h with ⟨h1, h2⟩ | ⟨h1, h2, h3, h4⟩
  · left
    refine ⟨h1, fun x x0 x1 => ?_⟩
    by_cases e : x = S
    · subst e
      apply Decidable.byContradiction
      intro c
      have := n (by omega)
      omega
    · exact h2 x x0 (by omega)
  · right
    refine ⟨by omega, h2, h3, fun x x0 x1 x2 => ?_⟩
    by_cases e : x = S
    · subst e
      have := n x2
      rw [h3] at this
      exact this.2
    · exact h4 x x0 (by omega) x2
theorem a_sf_take {T1 T2 : Int} {v1 v2 ix : Int → Int} {M : Nat} {S best sg : Int} (h : a_sf T1 T2 v1 v2 ix M S best sg) (hS : 0 ≤ S) (hv : a_V T1 T2 v1 v2 ix M S ≤ 24) (n : 0 ≤ best → 65536 * a_V T1 T2 v1 v2 ix M S + 4096 * a_bits S M + S ≤ 65536 * best + 4096 * a_bits sg M + sg) : a_sf T1 T2 v1 v2 ix M (S + 1) (a_V T1 T2 v1 v2 ix M S) S := by
  right
  refine ⟨by omega, hv, rfl, fun x x0 x1 x2 => ?_⟩
  by_cases e : x = S
  · subst e; omega
  · rcases h with ⟨h1, h2⟩ | ⟨h1, h2, h3, h4⟩
    · have := h2 x x0 (by omega)
      omega
    · have z := h4 x x0 (by omega) x2
      have := a_V_0 (T1 := T1) (T2 := T2) (v1 := v1) (v2 := v2) (ix := ix) (M := M) (S := sg)
      have n := n (by omega)
      rw [h3] at n
      omega
set_option maxHeartbeats 2000000 in
theorem s258 {F : m_F} (hs : I 110 = s) (hF : m_at I F) (wf : m_wf s) (cd : m_cd F s)
    (k0 : 12 < a_ri s (s 0) → ∀ I', w_fr pJ I I' → Q (some (w_i (-2))) I' J b)
    (k : a_ri s (s 0) ≤ 12 → ∀ o best sg, r_ok (a_ri s (s 0)) o (a_S s) (a_rk s) → a_pt s o best sg → (-2 ≤ best ∧ best ≤ 24) → ∀ I', w_fr pJ I I' → (0 ≤ best → I' 104 52 = sg) → Q (some (w_i best)) I' J b) : w_C xs xl 258 [.ref 104] I J b Q := by
  have w := wf.1
  have w0 := w.1
  have ri0 := a_ri_b (s := s) (h := s 0) (by omega)
  refine e258 (b258_0 ?_)
  refine s256 hs wf (fun I1 f1 lt1 => ?_)
  have f1' := p256_J f1
  have e46 : I1 104 46 = a_ri s (s 0) := lt1.1
  by_cases hM : a_ri s (s 0) ≤ 12
  · have k := k hM (a_o I1)
    have pm := pw2_le (j := a_ri s (s 0)) (by omega)
    have pp := pw2_pos (a_ri s (s 0))
    have shl := w_shl1 (j := a_ri s (s 0)) (by omega)
    refine b258_4 ?_
    try simp only [w_Ug, reduceIte, Nat.reduceEqDiff, Int.reduceEq, eq_self, e46]
    repeat' (first | apply And.intro | intro)
    all_goals (try first | omega | contradiction | exact Or.inl trivial | exact Or.inr trivial)
    have sx := a_ix_ok (s := s) (o := a_o I1) (M := (a_ri s (s 0)).toNat) (by omega) lt1.2.2.1
    have k := fun best sg => k best sg lt1.2.2.1
    unfold a_pt at k
    have con : ∀ S, (0 ≤ S ∧ S < pw2 (a_ri s (s 0))) → a_V (a_lv s 1 (s 0)) (a_lv s 2 (s 0)) (a_sv s (a_o I1) 1) (a_sv s (a_o I1) 2) (a_ix s (a_o I1)) (a_ri s (s 0)).toNat S = a_g (a_lv s 1 (s 0)) (a_sv s (a_o I1) 1) (a_ch S (a_ix s (a_o I1))) (a_ri s (s 0)).toNat 0 0 + a_g (a_lv s 2 (s 0)) (a_sv s (a_o I1) 2) (a_ch (pw2 (a_ri s (s 0)) - 1 - S) (a_ix s (a_o I1))) (a_ri s (s 0)).toNat 0 0 := by
      intro S hS
      unfold a_V a_v
      congr 1
      refine a_g_c _ _ _ (fun j j0 j1 => ?_)
      have z := sx.1 j.toNat (by omega)
      rw [show ((j.toNat : Nat) : Int) = j by omega] at z
      have bn := bt_not (S := S) (M := (a_ri s (s 0)).toNat) (by rw [show (((a_ri s (s 0)).toNat : Nat) : Int) = a_ri s (s 0) by omega]; exact hS) (j := (a_ix s (a_o I1) j).toNat) (by omega)
      rw [show (((a_ix s (a_o I1) j).toNat : Nat) : Int) = a_ix s (a_o I1) j by omega, show (((a_ri s (s 0)).toNat : Nat) : Int) = a_ri s (s 0) by omega] at bn
      unfold a_ch
      rw [bn]
      show (!(decide (bt S (a_ix s (a_o I1) j) = 1))) = _
      rcases bt_b S (a_ix s (a_o I1) j) with x | x <;> rw [x] <;> rfl
    have c257 : ∀ {S sd : Int} {I2 : w_I} {Q' : Option Value → w_I → w_I → Bool → Prop}, w_fr p258 I1 I2 → (0 ≤ S ∧ S < pw2 (a_ri s (s 0))) → (sd = 1 ∨ sd = 2) → (∀ I' v, w_fr p257 I2 I' → ((a_g (a_lv s sd (s 0)) (a_sv s (a_o I1) sd) (a_ch S (a_ix s (a_o I1))) (a_ri s (s 0)).toNat 0 0 ≤ 12 ∧ v = a_g (a_lv s sd (s 0)) (a_sv s (a_o I1) sd) (a_ch S (a_ix s (a_o I1))) (a_ri s (s 0)).toNat 0 0) ∨ (1000 ≤ a_g (a_lv s sd (s 0)) (a_sv s (a_o I1) sd) (a_ch S (a_ix s (a_o I1))) (a_ri s (s 0)).toNat 0 0 ∧ v = 100000000)) → Q' (some (w_i v)) I' J b) → w_C xs xl 257 [.ref 104, w_i S, w_i sd] I2 J b Q' := by
      intro S sd I2 Q' f2 hS hd kk
      obtain ⟨lt2, eo⟩ := a_lt_fr8 f2 lt1
      have fr := w_frt f1' (p258_J f2)
      rw [← eo] at kk
      exact s257 (F := F) (pJ_s fr hs) (pJ_F fr hF) wf cd lt2 hM hS hd kk
    generalize hV : a_V (a_lv s 1 (s 0)) (a_lv s 2 (s 0)) (a_sv s (a_o I1) 1) (a_sv s (a_o I1) 2) (a_ix s (a_o I1)) (a_ri s (s 0)).toNat = V at con
    have loop : ∀ (m : Nat) (S best : Int) (u3 u4 u5 : Option Value) (I2 : w_I), S + m = pw2 (a_ri s (s 0)) → 0 ≤ S → w_fr p258 I1 I2 → a_sf (a_lv s 1 (s 0)) (a_lv s 2 (s 0)) (a_sv s (a_o I1) 1) (a_sv s (a_o I1) 2) (a_ix s (a_o I1)) (a_ri s (s 0)).toNat S best (I2 104 52) →
        w_T xs xl 258 26 [some (.ref 104), some (w_i best), some (w_i S), u3, u4, u5] [] [] I2 J b Q := by
      intro m
      induction m with
      | zero =>
        intro S best u3 u4 u5 I2 a0 a1 a2 a3
        have e2 : I2 104 46 = a_ri s (s 0) := by rw [a2 104 46 rfl]; exact e46
        have e : S = pw2 (a_ri s (s 0)) := by omega
        subst e
        have v0 : ∀ x, 0 ≤ V x := fun x => by rw [← hV]; exact a_V_0
        have kk : Q (some (w_i best)) I2 J b := by
          unfold a_sf at a3
          rw [hV] at a3
          refine k best (I2 104 52) ?_ ?_ I2 (w_frt f1' (p258_J a2)) (fun _ => rfl)
          · unfold a_res
            rw [hV, show (((a_ri s (s 0)).toNat : Nat) : Int) = a_ri s (s 0) by omega]
            rcases a3 with z | ⟨z1, z2, z3, z4⟩
            · exact Or.inl z
            · exact Or.inr ⟨z1, by omega, z3, z4⟩
          · rcases a3 with z | ⟨z1, z2, z3, z4⟩
            · omega
            · have := v0 (I2 104 52)
              omega
        refine b258_26 ?_
        try simp only [w_Ug, reduceIte, Nat.reduceEqDiff, Int.reduceEq, eq_self, e2, shl]
        repeat' (first | apply And.intro | intro)
        all_goals (try first | omega | contradiction | exact Or.inl trivial | exact Or.inr trivial)
      | succ m ih =>
        intro S best u3 u4 u5 I2 a0 a1 a2 a3
        have e2 : I2 104 46 = a_ri s (s 0) := by rw [a2 104 46 rfl]; exact e46
        have hS : 0 ≤ S ∧ S < pw2 (a_ri s (s 0)) := ⟨a1, by omega⟩
        have cS := con S hS
        have bb : -2 ≤ best ∧ best ≤ 24 := by
          rcases a3 with z | ⟨z1, z2, z3, z4⟩
          · omega
          · have := a_V_0 (T1 := a_lv s 1 (s 0)) (T2 := a_lv s 2 (s 0)) (v1 := a_sv s (a_o I1) 1) (v2 := a_sv s (a_o I1) 2) (ix := a_ix s (a_o I1)) (M := (a_ri s (s 0)).toNat) (S := I2 104 52)
            omega
        have sgb : 0 ≤ best → 0 ≤ I2 104 52 ∧ I2 104 52 < S := fun x => by
          rcases a3 with z | ⟨z1, z2, z3, z4⟩
          · omega
          · exact z1
        have g0 := a_g_0 (T := a_lv s 1 (s 0)) (lv := a_sv s (a_o I1) 1) (c := a_ch S (a_ix s (a_o I1))) (a_ri s (s 0)).toNat 0 0
        have g0' := a_g_0 (T := a_lv s 2 (s 0)) (lv := a_sv s (a_o I1) 2) (c := a_ch (pw2 (a_ri s (s 0)) - 1 - S) (a_ix s (a_o I1))) (a_ri s (s 0)).toNat 0 0
        have far : 1000 ≤ V S → ∀ (u3 u4 u5 : Option Value) (I3 : w_I), w_fr p257 I2 I3 → w_T xs xl 258 26 [some (.ref 104), some (w_i best), some (w_i (S + 1)), u3, u4, u5] [] [] I3 J b Q := by
          intro hv u3 u4 u5 I3 f3
          refine ih (S + 1) best _ _ _ I3 (by omega) (by omega) (w_frt a2 (p257_258 f3)) ?_
          rw [f3 104 52 rfl]
          exact a_sf_skip a3 (fun x => by rw [hV] at x; omega)
        refine b258_26 ?_
        try simp only [w_Ug, reduceIte, Nat.reduceEqDiff, Int.reduceEq, eq_self, e2, shl]
        repeat' (first | apply And.intro | intro)
        all_goals (try first | omega | contradiction | exact Or.inl trivial | exact Or.inr trivial)
        refine c257 a2 hS (Or.inl rfl) (fun I3 v1 f3 h1 => ?_)
        have e3 : I3 104 46 = a_ri s (s 0) := by rw [f3 104 46 rfl]; exact e2
        have xr : w_and (w_shl 1 (I3 104 46) - 1) (w_xor S (-1)) = pw2 (a_ri s (s 0)) - 1 - S := by
          rw [e3, shl, w_xor1 (by omega), w_andm (by omega)]
          have : (-S - 1) % pw2 (a_ri s (s 0)) = pw2 (a_ri s (s 0)) - 1 - S := by
            rw [← Int.add_mul_emod_self_left (-S - 1) (pw2 (a_ri s (s 0))) 1, Int.mul_one]
            rw [Int.emod_eq_of_lt (by omega) (by omega)]
            omega
          exact this
        generalize a_g (a_lv s 1 (s 0)) (a_sv s (a_o I1) 1) (a_ch S (a_ix s (a_o I1))) (a_ri s (s 0)).toNat 0 0 = G1 at cS g0 h1
        by_cases c1 : 1000 ≤ G1
        · have ff := fun u4 u5 => far (by omega) (some (w_i v1)) u4 u5 I3 f3
          refine b258_42 ?_
          try simp only [w_Ug, reduceIte, Nat.reduceEqDiff, Int.reduceEq, eq_self, if_true]
          repeat' (first | apply And.intro | intro)
          all_goals (try first | omega | contradiction | exact Or.inl trivial | exact Or.inr trivial)
          all_goals exact ff _ _
        · refine b258_42 ?_
          try simp only [w_Ug, reduceIte, Nat.reduceEqDiff, Int.reduceEq, eq_self, if_true]
          repeat' (first | apply And.intro | intro)
          all_goals (try first | omega | contradiction | exact Or.inl trivial | exact Or.inr trivial)
          rw [xr]
          refine c257 (w_frt a2 (p257_258 f3)) (by omega) (Or.inr rfl) (fun I4 v2 f4 h2 => ?_)
          generalize a_g (a_lv s 2 (s 0)) (a_sv s (a_o I1) 2) (a_ch (pw2 (a_ri s (s 0)) - 1 - S) (a_ix s (a_o I1))) (a_ri s (s 0)).toNat 0 0 = G2 at cS g0' h2
          have f4' := w_frt f3 f4
          have e52 : I4 104 52 = I2 104 52 := f4' 104 52 rfl
          by_cases c2 : 1000 ≤ G2
          · have ff := fun u4 u5 => far (by omega) (some (w_i v1)) u4 u5 I4 f4'
            refine b258_70 ?_
            try simp only [w_Ug, reduceIte, Nat.reduceEqDiff, Int.reduceEq, eq_self, if_true]
            repeat' (first | apply And.intro | intro)
            all_goals (try first | omega | contradiction | exact Or.inl trivial | exact Or.inr trivial)
            all_goals exact ff _ _
          · have ev : v1 + v2 = V S := by omega
            have fr4 := w_frt a2 (p257_258 f4')
            have take : (0 ≤ best → 65536 * V S + 4096 * a_bits S (a_ri s (s 0)).toNat + S ≤ 65536 * best + 4096 * a_bits (I2 104 52) (a_ri s (s 0)).toNat + I2 104 52) → ∀ (u3 u4 u5 : Option Value), w_T xs xl 258 26 [some (.ref 104), some (w_i (v1 + v2)), some (w_i (S + 1)), u3, u4, u5] [] [] (w_U I4 104 52 S) J b Q := by
              intro hn u3 u4 u5
              refine ih (S + 1) (v1 + v2) _ _ _ _ (by omega) (by omega) (w_frU fr4 rfl) ?_
              rw [w_Ug, if_pos rfl, if_pos rfl, ev, ← hV]
              exact a_sf_take a3 a1 (by rw [hV]; omega) (fun x => by rw [hV]; exact hn x)
            have skip : (0 ≤ best ∧ 65536 * best + 4096 * a_bits (I2 104 52) (a_ri s (s 0)).toNat + I2 104 52 ≤ 65536 * V S + 4096 * a_bits S (a_ri s (s 0)).toNat + S) → ∀ (u3 u4 u5 : Option Value), w_T xs xl 258 26 [some (.ref 104), some (w_i best), some (w_i (S + 1)), u3, u4, u5] [] [] I4 J b Q := by
              intro hn u3 u4 u5
              refine ih (S + 1) best _ _ _ _ (by omega) (by omega) fr4 ?_
              rw [e52]
              exact a_sf_skip a3 (fun _ => by rw [hV]; exact hn)
            have b1 := a_bits_b (S := S) (M := (a_ri s (s 0)).toNat)
            have b2 := a_bits_b (S := I2 104 52) (M := (a_ri s (s 0)).toNat)
            refine b258_70 ?_
            try simp only [w_Ug, reduceIte, Nat.reduceEqDiff, Int.reduceEq, eq_self, if_true]
            repeat' (first | apply And.intro | intro)
            all_goals (try first | omega | contradiction | exact Or.inl trivial | exact Or.inr trivial)
            · exact take (fun x => by omega) _ _ _
            · exact skip (by omega) _ _ _
            · exact take (fun x => by omega) _ _ _
            · refine s259 (M := a_ri s (s 0)) (by omega) hS (b258_109 ?_)
              rw [e52]
              refine s259 (M := a_ri s (s 0)) (by omega) (by omega) ?_
              have tk := fun x => take x
              refine b258_116 ?_
              try simp only [w_Ug, reduceIte, Nat.reduceEqDiff, Int.reduceEq, eq_self, if_true]
              repeat' (first | apply And.intro | intro)
              all_goals (try first | omega | contradiction | exact Or.inl trivial | exact Or.inr trivial)
              · exact take (fun x => by omega) _ _ _
              · exact skip (by omega) _ _ _
    refine loop (pw2 (a_ri s (s 0))).toNat 0 (-2) _ _ _ _ (by omega) (by omega) (w_frU w_frr rfl) (Or.inl ⟨rfl, fun x x0 x1 => by omega⟩)
  · have kk := k0 (by omega) I1 f1'
    refine b258_4 ?_
    try simp only [w_Ug, reduceIte, Nat.reduceEqDiff, Int.reduceEq, eq_self, e46]
    repeat' (first | apply And.intro | intro)
    all_goals (try first | omega | contradiction | exact Or.inl trivial | exact Or.inr trivial)
theorem a_pt_u (w : m_w0 s) {o o' : Int → Int} {best sg best' sg' : Int} (hM : a_ri s (s 0) ≤ 12) (hr : r_ok (a_ri s (s 0)) o (a_S s) (a_rk s)) (hr' : r_ok (a_ri s (s 0)) o' (a_S s) (a_rk s)) (h : a_pt s o best sg) (h' : a_pt s o' best' sg') : best = best' ∧ (0 ≤ best → sg = sg') := by
  obtain ⟨-, e⟩ := r_uniq hr' hr (a_rk_inj w)
  have r0 := hr.1
  unfold a_pt at h h'
  have h2 := a_res_c (v1' := a_sv s o 1) (v2' := a_sv s o 2) (ix' := a_ix s o) (fun q x y => by
    have e := e q x (by omega)
    unfold a_sv a_ix
    rw [e]
    exact ⟨rfl, rfl, rfl⟩) h'
  exact a_res_u (by omega) h h2
theorem s260 {F : m_F} {a best sg : Int} {o : Int → Int} (hs : I 110 = s) (hF : m_at I F) (wf : m_wf s) (cd : m_cd F s) (ha : w_in a) (hb : 0 ≤ a ∧ a ≤ 1 → a_ri s (s 0) ≤ 12 → r_ok (a_ri s (s 0)) o (a_S s) (a_rk s) ∧ a_pt s o best sg)
    (kN : ¬ (0 ≤ a ∧ a ≤ 1) → Q (some (w_i (-1))) I J b)
    (k0 : 0 ≤ a ∧ a ≤ 1 → 12 < a_ri s (s 0) → ∀ I', w_fr pJ I I' → Q (some (w_i (-2))) I' J b)
    (k : 0 ≤ a ∧ a ≤ 1 → a_ri s (s 0) ≤ 12 → ∀ I', w_fr pJ I I' → Q (some (w_i (m_part best sg a))) I' J b) : w_C xs xl 260 [.ref 104, w_i a] I J b Q := by
  refine e260 (b260_0 ?_)
  refine s209 ha (by decide) (by decide) (fun h1 => ?_) (fun h1 => ?_)
  · have k0 := k0 h1
    have k := k h1
    have hb := hb h1
    refine b260_6 ?_
    try simp only [w_Ug, reduceIte, Nat.reduceEqDiff, Int.reduceEq, eq_self, if_true]
    repeat' (first | apply And.intro | intro)
    all_goals (try first | omega | contradiction | exact Or.inl trivial | exact Or.inr trivial)
    refine s258 (F := F) hs hF wf cd (fun hM I' fr => ?_) (fun hM o' best' sg' r' p' bb I' fr e52 => ?_)
    · have kk := k0 hM I' fr
      refine b260_15 ?_
      try simp only [w_Ug, reduceIte, Nat.reduceEqDiff, Int.reduceEq, eq_self, if_true]
      repeat' (first | apply And.intro | intro)
      all_goals (try first | omega | contradiction | exact Or.inl trivial | exact Or.inr trivial)
    · obtain ⟨r1, p1⟩ := hb hM
      obtain ⟨z1, z2⟩ := a_pt_u wf.1 hM r1 r' p1 p'
      have kk := k hM I' fr
      unfold m_part at kk
      subst z1
      by_cases x : best < 0
      · rw [if_pos x] at kk
        refine b260_15 ?_
        try simp only [w_Ug, reduceIte, Nat.reduceEqDiff, Int.reduceEq, eq_self, if_true]
        repeat' (first | apply And.intro | intro)
        all_goals (try first | omega | contradiction | exact Or.inl trivial | exact Or.inr trivial)
      · have e52 := (e52 (by omega)).trans (z2 (by omega)).symm
        rw [if_neg x] at kk
        refine b260_15 ?_
        try simp only [w_Ug, reduceIte, Nat.reduceEqDiff, Int.reduceEq, eq_self, e52]
        repeat' (first | apply And.intro | intro)
        all_goals (try first | omega | contradiction | exact Or.inl trivial | exact Or.inr trivial)
        · rename_i c1
          rw [if_neg c1] at kk; exact kk
        · rename_i c1
          rw [if_pos c1] at kk; exact kk
  · have kk := kN h1
    refine b260_6 ?_
    try simp only [w_Ug, reduceIte, Nat.reduceEqDiff, Int.reduceEq, eq_self, if_true]
    repeat' (first | apply And.intro | intro)
    all_goals (try first | omega | contradiction | exact Or.inl trivial | exact Or.inr trivial)
end
