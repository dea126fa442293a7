section
/-! reading, the reference: one tell -/
variable {xs : Nat → Int32} {xl : Nat} {I J : w_I} {b : Bool} {Q : Option Value → w_I → w_I → Bool → Prop}
variable {K V P M : Int → Int} {N h : Int} {S : z_S}
theorem z_ah_nl {t side g z i : Int} : z_ah t side g (z_nl z i S) = z_nl z i (z_ah t side g S) := by
  by_cases c : q_ln S = 0
  · have e : z_nl z i S = (q_sd S, q_gd S, q_tk S, q_st S, q_la S, q_by S, q_lw S, q_ru S, z, i) := if_pos c
    have e2 : z_nl z i (z_ah t side g S) = (q_sd S ++ [side], q_gd S ++ [g], q_tk S ++ [t], q_st S, q_la S, q_by S, q_lw S, q_ru S, z, i) := if_pos c
    rw [e, e2]
    rfl
  · have e : z_nl z i S = S := if_neg c
    have e2 : z_nl z i (z_ah t side g S) = z_ah t side g S := if_neg c
    rw [e, e2]
theorem z_ast_nl {v z i : Int} : z_ast v (z_nl z i S) = z_nl z i (z_ast v S) := by
  by_cases c : q_ln S = 0
  · have e : z_nl z i S = (q_sd S, q_gd S, q_tk S, q_st S, q_la S, q_by S, q_lw S, q_ru S, z, i) := if_pos c
    have e2 : z_nl z i (z_ast v S) = (q_sd S, q_gd S, q_tk S, v, q_la S, q_by S, q_lw S, q_ru S, z, i) := if_pos c
    rw [e, e2]
    rfl
  · have e : z_nl z i S = S := if_neg c
    have e2 : z_nl z i (z_ast v S) = z_ast v S := if_neg c
    rw [e, e2]
theorem z_ala_nl {v z i : Int} : z_ala v (z_nl z i S) = z_nl z i (z_ala v S) := by
  by_cases c : q_ln S = 0
  · have e : z_nl z i S = (q_sd S, q_gd S, q_tk S, q_st S, q_la S, q_by S, q_lw S, q_ru S, z, i) := if_pos c
    have e2 : z_nl z i (z_ala v S) = (q_sd S, q_gd S, q_tk S, q_st S, v, q_by S, q_lw S, q_ru S, z, i) := if_pos c
    rw [e, e2]
    rfl
  · have e : z_nl z i S = S := if_neg c
    have e2 : z_nl z i (z_ala v S) = z_ala v S := if_neg c
    rw [e, e2]
theorem pz4_V {k : Int} (h : 7 ≤ k) : pzV 104 k = true := by
  unfold pzV pzY
  rw [decide_eq_true h]
  rfl
theorem pz110_V {k : Int} (h : 700 ≤ k ∧ k < 1400) : pzV 110 k = true := by
  unfold pzV pzY
  rw [decide_eq_true h]
  rfl
theorem s177z (hN : zN K V P N) {f : Int → z_R} {R : z_R} {S0 : z_S} (hR : z_pa h S0 f = R) (hT : zU I J K V P M N) (hz : zK I J P M h S) (hh : 0 ≤ h ∧ h ≤ N) (hk : 2 ≤ K h) (k1 : zK (w_U I 104 7 (h + 1)) J P M (h + 1) S → h + 1 ≤ N → f (h + 1) = R → Q (some (w_i 1)) (w_U I 104 7 (h + 1)) J b) (k0 : R.1 ≠ 0 → ∀ I', zF I I' R.1 (P R.2.1) → Q (some (w_i 0)) I' J b) : w_C xs xl 177 [.ref 104] I J b Q := by
  unfold z_pa at hR
  refine s177 hT hN.1.2 hz.1.1 hh (fun c => ?_) (fun c I' g => ?_)
  · rw [if_neg (by omega)] at hR
    exact k1 (zK_4 hz zSl_r (fun a x => w_Ua x) (by simp [w_Ug]) (by simp [w_Ug]; exact hz.1.2) ⟨hz.2.1.1, by simp [w_Ug]; exact hz.2.1.2.1, by simp [w_Ug]; exact hz.2.1.2.2⟩ (by omega)) (zN_x hN hh hk (by omega)) hR
  · rw [if_pos c] at hR
    rw [← hR] at k0
    exact k0 (by simp) I' (zF_e g zfr)
theorem s193 (hN : zN K V P N) (hM : ∀ i, 0 ≤ i → i ≤ N → K i = 2 → w_inl (M i)) (hT : zU I J K V P M N) (hz : zK I J P M h S) (hq : zQ K h S) (hh : 0 ≤ h ∧ h ≤ N) (hK : K h = 20) {R : z_R} (hR : z_th K V M h S = R)
    (k1 : ∀ (I' J' : w_I) (h' : Int) (S' : z_S), zFr I I' → J' 109 = J 109 → zK I' J' P M h' S' → 0 ≤ h' ∧ h' ≤ N → z_en K S' h' = R → Q (some (w_i 1)) I' J' b)
    (k0 : R.1 ≠ 0 → ∀ I' J', zF I I' R.1 (P R.2.1) → Q (some (w_i 0)) I' J' b) : w_C xs xl 193 [.ref 104] I J b Q := by
  have hNN := hN.1.2
  have hlen := hq.1.2.2.1
  have e70 := hz.2.2.1.1
  obtain ⟨ql1, ql2⟩ := hq.1
  obtain ⟨ql2, -, -⟩ := ql2
  refine e193 (b193_0 (s189 (e := 700) (by decide) (by decide) e70 ?_))
  unfold z_th at hR
  by_cases c24 : (q_sd S).length = 24
  · rw [if_pos c24] at hR
    rw [← hR] at k0
    have fin : w_C xs xl 175 [.ref 104, w_i 2] I J b (fun v Ic Jc bc => w_T xs xl 193 17 [some (.ref 104), some (w_i 24), none, none] [] (w_pv v []) Ic Jc bc Q) := s175 hT hNN hz.1.1 hh (fun I' f => b193_17 ⟨Or.inl rfl, k0 (by simp) I' J (zF_e f zfr)⟩)
    rw [c24]
    refine b193_5 ?_
    try simp only [w_Ug, reduceIte, Nat.reduceEqDiff, Int.reduceEq, eq_self, if_true]
    repeat' (first | apply And.intro | intro)
    all_goals (try first | omega | contradiction | exact Or.inl trivial | exact Or.inr trivial)
  · rw [if_neg c24] at hR
    refine b193_5 ?_
    try simp only [w_Ug, reduceIte, Nat.reduceEqDiff, Int.reduceEq, eq_self, if_true]
    repeat' (first | apply And.intro | intro)
    all_goals (try first | omega | contradiction | exact Or.inl trivial | exact Or.inr trivial)
    refine s177z hN hR hT hz hh (by omega) (fun z1 x1 hR => ?_) (fun r I' f => ?_)
    · have f1 : zFr I (w_U I 104 7 (h + 1)) := zfU zfr (pz4_V (by decide))
      have e7 : (w_U I 104 7 (h + 1)) 104 7 = h + 1 := by simp [w_Ug]
      have t1 : zU (w_U I 104 7 (h + 1)) J K V P M N := zU_f hT (w_Ua (by decide)) (w_Ua (by decide)) (w_Ua (by decide))
      generalize w_U I 104 7 (h + 1) = I1 at z1 f1 e7 t1
      refine b193_22 ?_
      try simp only [w_Ug, reduceIte, Nat.reduceEqDiff, Int.reduceEq, eq_self, if_true]
      repeat' (first | apply And.intro | intro)
      all_goals (try first | omega | contradiction | exact Or.inl trivial | exact Or.inr trivial)
      rw [e7]
      unfold z_wa at hR
      refine s180 t1 hNN e7 ⟨by omega, x1⟩ (hN.2.2.2.1 (h + 1) (by omega) x1).1 (kk := 2) ⟨by decide, Or.inl rfl⟩ (fun c x => ?_) (fun c I' f => ?_) (fun c x I' f => ?_)
      · rw [if_pos c] at hR
        unfold z_pa at hR
        rw [if_neg (by omega)] at hR
        have x2 : h + 1 + 1 ≤ N := zN_x hN ⟨by omega, x1⟩ (by omega) (by omega)
        have z2 : zK (w_U I1 104 7 (h + 1 + 1)) J P M (h + 1 + 1) S := zK_4 z1 zSl_r (fun a x => w_Ua x) (by simp [w_Ug]) (by simp [w_Ug]; exact z1.1.2) ⟨z1.2.1.1, by simp [w_Ug]; exact z1.2.1.2.1, by simp [w_Ug]; exact z1.2.1.2.2⟩ (by omega)
        have f2 : zFr I (w_U I1 104 7 (h + 1 + 1)) := zfU f1 (pz4_V (by decide))
        have t2 : zU (w_U I1 104 7 (h + 1 + 1)) J K V P M N := zU_f t1 (w_Ua (by decide)) (w_Ua (by decide)) (w_Ua (by decide))
        generalize w_U I1 104 7 (h + 1 + 1) = I2 at z2 f2 t2
        have j109 : J 109 (h + 1) = M (h + 1) := (t2 (h + 1) (by omega) (by omega)).2.2.2.2 c
        have mb := hM (h + 1) (by omega) (by omega) c
        -- behind the names
        have after : ∀ (I3 : w_I) (T : z_S), zFr I I3 → zU I3 J K V P M N → zK I3 J P M (h + 1 + 1) T → zSl S T → T = z_nn M (h + 1) S → (q_ln T ≠ 0 → 0 ≤ q_li T ∧ q_li T < h + 1 + 1) →
            w_C xs xl 179 [.ref 104, w_i 1] I3 (w_U J 122 (q_sd S).length (M (h + 1))) b (fun v Ic Jc bc => w_T xs xl 193 99 [some (.ref 104), some (w_i (q_sd S).length), some (w_i (h + 1)), some (w_i (q_sd S).length)] [] (w_pv v [w_i (20 + ((q_sd S).length : Int)), .ref 104]) Ic Jc bc Q) := by
          intro I3 T f3 t3 z3 sl hT' hql
          obtain ⟨sl1, sl2, sl3, sl4, sl5, sl6, sl7, sl8⟩ := sl
          have z3' : zK I3 (w_U J 122 (q_sd S).length (M (h + 1))) P M (h + 1 + 1) T := by
            obtain ⟨a, a1, ⟨b1, b2, b3, b4⟩, rest⟩ := z3
            refine ⟨a, a1, ⟨b1, b2, b3, ?_⟩, rest⟩
            refine z_at_c _ _ (fun j x y => ?_) b4
            rw [List.length_map, sl3] at y
            rw [w_Ug, if_pos rfl, if_neg (by omega)]
          have t3' : zU I3 (w_U J 122 (q_sd S).length (M (h + 1))) K V P M N := fun i x y => by
            rw [w_Ua (by decide)]
            exact t3 i x y
          have jn : (w_U J 122 (q_sd S).length (M (h + 1))) 122 (q_sd S).length = M (h + 1) := by simp [w_Ug]
          have jj : (w_U J 122 (q_sd S).length (M (h + 1))) 109 = J 109 := w_Ua (by decide)
          generalize (w_U J 122 (q_sd S).length (M (h + 1))) = J1 at z3' t3' jn jj
          have lenT : (q_sd T).length = (q_sd S).length := by rw [sl1]
          have lenG : (q_gd T).length = (q_sd T).length := by rw [sl1, sl2]; exact ql1
          have lenK : (q_tk T).length = (q_sd T).length := by rw [sl1, sl3]; exact ql2
          have h7 := z3'.1.1
          have kb2 := hN.2.2.2.1 (h + 1 + 1) (by omega) x2
          -- the number
          have num : ∀ (I4 : w_I) (h3 side : Int) (u2 u3 : Option Value), zFr I I4 → zU I4 J1 K V P M N → zK I4 J1 P M h3 T → I4 110 (720 + (q_sd S).length) = side → (h + 1 + 1 ≤ h3 ∧ h3 ≤ N) → z_th2 K V M (h + 1) h3 side S = R →
              w_C xs xl 181 [.ref 104, w_i 0, w_i 99] I4 J1 b (fun v Ic Jc bc => w_T xs xl 193 149 [some (.ref 104), some (w_i (q_sd S).length), u2, u3] [] (w_pv v []) Ic Jc bc Q) := by
            intro I4 h3 side u2 u3 f4 t4 z4 e4 y4 r4
            unfold z_th2 z_fi z_nu at r4
            rw [← hT'] at r4
            refine s181 hN t4 z4 ⟨by omega, y4.2⟩ (fun x => ⟨(hql x).1, by have := (hql x).2; omega⟩) (by decide) (fun c3 cc I5 f5 z5 e25 => ?_) (fun c3 I' g => ?_) (fun c3 cc I' g => ?_)
            · rw [if_pos c3] at r4
              unfold z_pa at r4
              rw [if_neg cc] at r4
              have x5 : h3 + 1 ≤ N := zN_x hN ⟨by omega, y4.2⟩ (by omega) cc
              have e5 : I5 110 (720 + (q_sd S).length) = side := by rw [p81_a f5 (by decide)]; exact e4
              have v3 := (hN.2.2.2.1 h3 (by omega) y4.2).2.1
              refine b193_149 ?_
              try simp only [w_Ug, reduceIte, Nat.reduceEqDiff, Int.reduceEq, eq_self, e25]
              repeat' (first | apply And.intro | intro)
              all_goals (try first | omega | contradiction | exact Or.inl trivial | exact Or.inr trivial)
              refine s190 (e := 750 + ((q_sd S).length : Int)) (by omega) (by omega) (b193_166 (s190 (e := 700) (by decide) (by decide) (b193_174 ?_)))
              have lat : ∀ U : z_S, zK I5 J1 P M (h3 + 1) U → zSl T U → zK (w_U (w_U I5 110 (750 + ((q_sd S).length : Int)) (V h3)) 110 700 ((q_sd S).length + 1)) J1 P M (h3 + 1) (z_ah (h + 1) side (V h3) U) := by
                intro U zU' slU
                obtain ⟨w1, w2, w3, -⟩ := slU
                have lU : (q_sd U).length = (q_sd S).length := by rw [w1, lenT]
                have := zK_h (t := h + 1) (side := side) (g := V h3) zU' (by rw [w2, w1]; exact lenG) (by rw [w3, w1]; exact lenK) (by omega) (by rw [lU]; exact e5) (by rw [lU]; exact jn)
                rw [lU] at this
                exact this
              have f6 : zFr I (w_U (w_U I5 110 (750 + ((q_sd S).length : Int)) (V h3)) 110 700 ((q_sd S).length + 1)) := zfU (zfU (zft f4 (p81_r f5)) (pz110_V (by omega))) (pz110_V (by decide))
              by_cases cb : V h3 < 0 ∨ 99 < V h3
              · simp only [if_pos cb] at z5 r4
                have z6 := lat _ z5 zSl_nl
                rw [z_ah_nl] at z6
                exact k1 _ J1 (h3 + 1) _ f6 jj z6 ⟨by omega, x5⟩ r4
              · simp only [if_neg cb] at z5 r4
                have z6 := lat _ z5 zSl_r
                exact k1 _ J1 (h3 + 1) _ f6 jj z6 ⟨by omega, x5⟩ r4
            · rw [if_neg c3] at r4
              rw [← r4] at k0
              have kk := k0 (by simp) I' J1 (zF_e g f4)
              refine b193_149 ?_
              try simp only [w_Ug, reduceIte, Nat.reduceEqDiff, Int.reduceEq, eq_self, if_true]
              repeat' (first | apply And.intro | intro)
              all_goals (try first | omega | contradiction | exact Or.inl trivial | exact Or.inr trivial)
            · rw [if_pos c3] at r4
              unfold z_pa at r4
              rw [if_pos cc] at r4
              rw [← r4] at k0
              have kk := k0 (by simp) I' J1 (zF_e g f4)
              refine b193_149 ?_
              try simp only [w_Ug, reduceIte, Nat.reduceEqDiff, Int.reduceEq, eq_self, if_true]
              repeat' (first | apply And.intro | intro)
              all_goals (try first | omega | contradiction | exact Or.inl trivial | exact Or.inr trivial)
          -- the side is laid
          have side : ∀ sd : Int, (0 ≤ sd ∧ sd ≤ 2) → (sd = 0 → z_th2 K V M (h + 1) (h + 1 + 1) 0 S = R) → (sd ≠ 0 → 2 ≤ K (h + 1 + 1) ∧ z_pa (h + 1 + 1) S (fun h3 => z_th2 K V M (h + 1) h3 sd S) = R) → w_C xs xl 190 [.ref 104, w_i (20 + ((q_sd S).length : Int)), w_i sd] I3 J1 b (fun v Ic Jc bc => w_T xs xl 193 122 [some (.ref 104), some (w_i (q_sd S).length), some (w_i (h + 1)), some (w_i (q_sd S).length)] [] (w_pv v []) Ic Jc bc Q) := by
            intro sd sb s0 s1
            have z4 := zK_w (e := 720 + ((q_sd S).length : Int)) (v := sd) z3' lenG (by omega) (Or.inl (by omega))
            have f4 : zFr I (w_U I3 110 (720 + ((q_sd S).length : Int)) sd) := zfU f3 (pz110_V (by omega))
            have t4 : zU (w_U I3 110 (720 + ((q_sd S).length : Int)) sd) J1 K V P M N := zU_f t3' (w_Ua (by decide)) (w_Ua (by decide)) (w_Ua (by decide))
            have e4 : (w_U I3 110 (720 + ((q_sd S).length : Int)) sd) 110 (720 + ((q_sd S).length : Int)) = sd := by simp [w_Ug]
            refine s190 (e := 720 + ((q_sd S).length : Int)) (by omega) (by omega) (b193_122 (s189 (e := 720 + ((q_sd S).length : Int)) (by omega) (by omega) e4 ?_))
            generalize (w_U I3 110 (720 + ((q_sd S).length : Int)) sd) = I4 at z4 f4 t4 e4
            by_cases c0 : sd = 0
            · have nn := fun u2 u3 => num I4 (h + 1 + 1) sd u2 u3 f4 t4 z4 e4 ⟨by omega, x2⟩ (by rw [c0]; exact s0 c0)
              refine b193_130 ?_
              try simp only [w_Ug, reduceIte, Nat.reduceEqDiff, Int.reduceEq, eq_self, if_true]
              repeat' (first | apply And.intro | intro)
              all_goals (try first | omega | contradiction | exact Or.inl trivial | exact Or.inr trivial)
              exact nn _ _
            · obtain ⟨s2, s3⟩ := s1 c0
              refine b193_130 ?_
              try simp only [w_Ug, reduceIte, Nat.reduceEqDiff, Int.reduceEq, eq_self, if_true]
              repeat' (first | apply And.intro | intro)
              all_goals (try first | omega | contradiction | exact Or.inl trivial | exact Or.inr trivial)
              refine s177z hN s3 t4 z4 ⟨by omega, x2⟩ s2 (fun z5 x5 r5 => ?_) (fun r I' g => ?_)
              · have f5 : zFr I (w_U I4 104 7 (h + 1 + 1 + 1)) := zfU f4 (pz4_V (by decide))
                have t5 : zU (w_U I4 104 7 (h + 1 + 1 + 1)) J1 K V P M N := zU_f t4 (w_Ua (by decide)) (w_Ua (by decide)) (w_Ua (by decide))
                have e5 : (w_U I4 104 7 (h + 1 + 1 + 1)) 110 (720 + ((q_sd S).length : Int)) = sd := by rw [w_Ua (by decide)]; exact e4
                generalize w_U I4 104 7 (h + 1 + 1 + 1) = I5 at z5 f5 t5 e5
                have nn := fun u2 u3 => num I5 (h + 1 + 1 + 1) sd u2 u3 f5 t5 z5 e5 ⟨by omega, x5⟩ r5
                refine b193_137 ?_
                try simp only [w_Ug, reduceIte, Nat.reduceEqDiff, Int.reduceEq, eq_self, if_true]
                repeat' (first | apply And.intro | intro)
                all_goals (try first | omega | contradiction | exact Or.inl trivial | exact Or.inr trivial)
                exact nn _ _
              · have kk := k0 r I' J1 (zF_f g f4)
                refine b193_137 ?_
                try simp only [w_Ug, reduceIte, Nat.reduceEqDiff, Int.reduceEq, eq_self, if_true]
                repeat' (first | apply And.intro | intro)
                all_goals (try first | omega | contradiction | exact Or.inl trivial | exact Or.inr trivial)
          have sw := fun (kk ch : Int) (Q' : Option Value → w_I → w_I → Bool → Prop) => s179 (xs := xs) (xl := xl) (b := b) (Q := Q') (c := ch) (kk := kk) t3' hNN h7 ⟨by omega, x2⟩ kb2.1 kb2.2.2.2
          unfold z_th1 at hR
          rw [show h + 1 + 1 - 1 = h + 1 by omega] at hR
          refine sw 21 1 _ rfl (by decide) (fun ck => ?_) (fun c21 => ?_)
          · rw [if_pos ck] at hR
            have s := side 1 (by decide) (fun x => by omega) (fun _ => ⟨by omega, hR⟩)
            refine b193_99 ?_
            try simp only [w_Ug, reduceIte, Nat.reduceEqDiff, Int.reduceEq, eq_self, if_true]
            repeat' (first | apply And.intro | intro)
            all_goals (try first | omega | contradiction | exact Or.inl trivial | exact Or.inr trivial)
          · rw [if_neg c21] at hR
            refine b193_99 ?_
            try simp only [w_Ug, reduceIte, Nat.reduceEqDiff, Int.reduceEq, eq_self, if_true]
            repeat' (first | apply And.intro | intro)
            all_goals (try first | omega | contradiction | exact Or.inl trivial | exact Or.inr trivial)
            refine sw 22 2 _ rfl (by decide) (fun ck => ?_) (fun c22 => ?_)
            · rw [if_pos ck] at hR
              have s := side 2 (by decide) (fun x => by omega) (fun _ => ⟨by omega, hR⟩)
              refine b193_111 ?_
              try simp only [w_Ug, reduceIte, Nat.reduceEqDiff, Int.reduceEq, eq_self, if_true]
              repeat' (first | apply And.intro | intro)
              all_goals (try first | omega | contradiction | exact Or.inl trivial | exact Or.inr trivial)
            · rw [if_neg c22] at hR
              have s := side 0 (by decide) (fun _ => hR) (fun x => absurd rfl x)
              refine b193_111 ?_
              try simp only [w_Ug, reduceIte, Nat.reduceEqDiff, Int.reduceEq, eq_self, if_true]
              repeat' (first | apply And.intro | intro)
              all_goals (try first | omega | contradiction | exact Or.inl trivial | exact Or.inr trivial)
        -- the names
        have loop : ∀ (rest : List Int) (l3 : Int) (I3 : w_I) (T : z_S), z_at (J 122) l3 (rest.map M) → l3 + rest.length = (q_sd S).length → 0 ≤ l3 → (∀ x ∈ rest, 0 ≤ x ∧ x < h ∧ K x = 2) → zFr I I3 → zU I3 J K V P M N → zK I3 J P M (h + 1 + 1) T → zSl S T → (q_ln T ≠ 0 → 0 ≤ q_li T ∧ (q_li T < h + 1 ∨ (q_li T = h + 1 ∧ q_ln T ≤ 3))) → (if z_in M (M (h + 1)) rest = true then z_nl 3 (h + 1) T else T) = z_nn M (h + 1) S → w_T xs xl 193 44 [some (.ref 104), some (w_i (q_sd S).length), some (w_i (h + 1)), some (w_i l3)] [] [] I3 J b Q := by
          intro rest
          induction rest with
          | nil =>
            intro l3 I3 T a0 a1 a2 a3 a4 a5 a6 a7 a8 a9
            have a9 : T = z_nn M (h + 1) S := a9
            have a1 : l3 + 0 = (q_sd S).length := a1
            rw [show l3 = (q_sd S).length by omega]
            have af := after I3 T a4 a5 a6 a7 a9 (fun x => by have := a8 x; omega)
            refine b193_44 ?_
            try simp only [w_Ug, reduceIte, Nat.reduceEqDiff, Int.reduceEq, eq_self, j109]
            repeat' (first | apply And.intro | intro)
            all_goals (try first | omega | contradiction | exact Or.inl trivial | exact Or.inr trivial)
          | cons x r ih =>
            intro l3 I3 T a0 a1 a2 a3 a4 a5 a6 a7 a8 a9
            have hl := z_len x r
            obtain ⟨x1', x2', x3'⟩ := a3 x (by simp)
            have e1 : J 122 l3 = M x := a0.1
            have mbx := hM x x1' (by omega) x3'
            have a9 : (if (decide (M x = M (h + 1)) || z_in M (M (h + 1)) r) = true then z_nl 3 (h + 1) T else T) = z_nn M (h + 1) S := a9
            by_cases cm : M x = M (h + 1)
            · rw [decide_eq_true cm, Bool.true_or, if_pos rfl] at a9
              rw [cm] at e1
              have rest : w_C xs xl 176 [.ref 104, w_i 3, w_i (h + 1)] I3 J b (fun v Ic Jc bc => w_T xs xl 193 71 [some (.ref 104), some (w_i (q_sd S).length), some (w_i (h + 1)), some (w_i l3)] [] (w_pv v []) Ic Jc bc Q) := by
                refine s176 hN a5 (Or.inl rfl) ⟨by omega, x1⟩ a6.2.1 a8 (fun I4 g1 g2 g3 => b193_71 ?_)
                refine ih (l3 + 1) I4 (z_nl 3 (h + 1) T) a0.2 (by omega) (by omega) (fun y hy => a3 y (by simp [hy])) ⟨fun a k e => ?_, fun x => zB1_e (g1 115 (by decide)) (a4.2 x)⟩ (zU_f a5 (g1 _ (by decide)) (g1 _ (by decide)) (g1 _ (by decide))) (zK_4 a6 zSl_nl g1 (by rw [g2 7 (by decide) (by decide)]; exact a6.1.1) (by rw [g2 8 (by decide) (by decide), g2 9 (by decide) (by decide)]; exact a6.1.2) g3 (Int.le_refl _)) ?_ ?_ ?_
                · by_cases ea : a = 104
                  · subst ea
                    have e7 : ¬ 7 ≤ k := fun x => by rw [pz4_V x] at e; cases e
                    rw [g2 k (by omega) (by omega)]
                    exact a4.1 104 k e
                  · rw [g1 a ea]
                    exact a4.1 a k e
                · obtain ⟨p1, p2, p3, p4, p5, p6, p7, p8⟩ := a7
                  obtain ⟨r1, r2, r3, r4, r5, r6, r7, r8⟩ := zSl_nl (S := T) (z := 3) (i := h + 1)
                  exact ⟨r1.trans p1, r2.trans p2, r3.trans p3, r4.trans p4, r5.trans p5, r6.trans p6, r7.trans p7, r8.trans p8⟩
                · intro y
                  unfold z_nl at y ⊢
                  by_cases cz : q_ln T = 0
                  · rw [if_pos cz]
                    exact ⟨by show 0 ≤ h + 1; omega, Or.inr ⟨rfl, by show (3 : Int) ≤ 3; decide⟩⟩
                  · rw [if_neg cz]
                    exact a8 cz
                · rw [z_nl_i (by decide), a9]
                  split <;> rfl
              refine b193_44 ?_
              try simp only [w_Ug, reduceIte, Nat.reduceEqDiff, Int.reduceEq, eq_self, e1, j109]
              repeat' (first | apply And.intro | intro)
              all_goals (try first | omega | contradiction | exact Or.inl trivial | exact Or.inr trivial)
            · rw [decide_eq_false cm, Bool.false_or] at a9
              have nx := ih (l3 + 1) I3 T a0.2 (by omega) (by omega) (fun y hy => a3 y (by simp [hy])) a4 a5 a6 a7 a8 a9
              refine b193_44 ?_
              try simp only [w_Ug, reduceIte, Nat.reduceEqDiff, Int.reduceEq, eq_self, e1, j109]
              repeat' (first | apply And.intro | intro)
              all_goals (try first | omega | contradiction | exact Or.inl trivial | exact Or.inr trivial)
        have l18 := z2.2.2.1.2.2.2
        have lp := loop (q_tk S) 0 I2 S l18 (by omega) (by decide) hq.2.1 f2 t2 z2 zSl_r (fun x => ⟨(hq.2.2 x).1, Or.inl (by have := (hq.2.2 x).2; omega)⟩) rfl
        refine b193_37 ?_
        try simp only [w_Ug, reduceIte, Nat.reduceEqDiff, Int.reduceEq, eq_self, if_true]
        repeat' (first | apply And.intro | intro)
        all_goals (try first | omega | contradiction | exact Or.inl trivial | exact Or.inr trivial)
      · rw [if_neg c] at hR
        rw [← hR] at k0
        have kk := k0 (by simp) I' J (zF_e f f1)
        refine b193_37 ?_
        try simp only [w_Ug, reduceIte, Nat.reduceEqDiff, Int.reduceEq, eq_self, if_true]
        repeat' (first | apply And.intro | intro)
        all_goals (try first | omega | contradiction | exact Or.inl trivial | exact Or.inr trivial)
      · rw [if_pos c] at hR
        unfold z_pa at hR
        rw [if_pos x] at hR
        rw [← hR] at k0
        have kk := k0 (by simp) I' J (zF_e f f1)
        refine b193_37 ?_
        try simp only [w_Ug, reduceIte, Nat.reduceEqDiff, Int.reduceEq, eq_self, if_true]
        repeat' (first | apply And.intro | intro)
        all_goals (try first | omega | contradiction | exact Or.inl trivial | exact Or.inr trivial)
    · have kk := k0 r I' J f
      refine b193_22 ?_
      try simp only [w_Ug, reduceIte, Nat.reduceEqDiff, Int.reduceEq, eq_self, if_true]
      repeat' (first | apply And.intro | intro)
      all_goals (try first | omega | contradiction | exact Or.inl trivial | exact Or.inr trivial)
end
