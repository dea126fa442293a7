section
theorem e153 {xs : Nat → Int32} {xl : Nat} {I J : w_I} {b : Bool} {Q : Option Value → w_I → w_I → Bool → Prop} {a1 : Int} (t : w_T xs xl 153 0 [some (.ref 0), some (w_i a1)] [] [] I J b Q) : w_C xs xl 153 [.ref 0, w_i a1] I J b Q := w_en rfl t
theorem b153_0 {xs : Nat → Int32} {xl : Nat} {I J : w_I} {b : Bool} {Q : Option Value → w_I → w_I → Bool → Prop} {a1 : Int} (k : ((-2147483648 ≤ a1 ∧ a1 < 2147483648) ∧ ((a1 < 0 → Q (some (w_i 0)) I J b) ∧ (¬ a1 < 0 → ((2 ≤ a1 → Q (some (w_i 0)) I J b) ∧ (¬ 2 ≤ a1 → ((0 ≤ a1 ∧ a1 < 2) ∧ ((-2147483648 ≤ I 49 a1 ∧ I 49 a1 < 2147483648) ∧ ((¬ I 49 a1 = 0 → ((a1 = 0 → w_C xs xl 4 [.ref 20, .ref 50] I J b (fun v Ic Jc bc => w_T xs xl 153 33 [some (.ref 0), some (w_i a1)] [] (w_pv v []) Ic Jc bc Q)) ∧ (¬ a1 = 0 → w_C xs xl 4 [.ref 20, .ref 64] I J b (fun v Ic Jc bc => w_T xs xl 153 33 [some (.ref 0), some (w_i a1)] [] (w_pv v []) Ic Jc bc Q)))) ∧ (I 49 a1 = 0 → Q (some (w_i 0)) I J b)))))))))) : w_T xs xl 153 0 [some (.ref 0), some (w_i a1)] [] [] I J b Q := by
  refine w_iload_n (q := 1) rfl rfl rfl ?_
  obtain ⟨h1, k⟩ := k
  refine w_zlt (t := 18) (q := 4) rfl rfl rfl h1 (fun c2 => ?_) (fun c2 => ?_)
  · replace k := k.1 c2
    refine w_iconst (q := 19) rfl rfl ?_
    refine w_iret rfl rfl k
  · replace k := k.2 c2
    refine w_iload_n (q := 5) rfl rfl rfl ?_
    refine w_iconst (q := 6) rfl rfl ?_
    refine w_cge (t := 18) (q := 9) rfl rfl rfl h1 (by decide) (fun c3 => ?_) (fun c3 => ?_)
    · replace k := k.1 c3
      refine w_iconst (q := 19) rfl rfl ?_
      refine w_iret rfl rfl k
    · replace k := k.2 c3
      refine w_aload_n (q := 10) rfl rfl rfl ?_
      refine w_gfr (q := 13) rfl rfl rfl rfl (j := 49) rfl ?_
      refine w_iload_n (q := 14) rfl rfl rfl ?_
      obtain ⟨h4, k⟩ := k
      refine w_bald2 (q := 15) (n := 2) (v := I 49 a1) rfl rfl rfl rfl rfl rfl h4 ?_
      obtain ⟨h5, k⟩ := k
      refine w_zne (t := 20) (q := 18) rfl rfl rfl h5 (fun c6 => ?_) (fun c6 => ?_)
      · replace k := k.1 c6
        refine w_aload_n (q := 21) rfl rfl rfl ?_
        refine w_gfr (q := 24) rfl rfl rfl rfl (j := 20) rfl ?_
        refine w_aload_n (q := 25) rfl rfl rfl ?_
        refine w_gfr (q := 28) rfl rfl rfl rfl (j := 48) rfl ?_
        refine w_iload_n (q := 29) rfl rfl rfl ?_
        rcases Decidable.em (a1 = 0) with c9 | c9
        · replace k := k.1 c9
          refine w_aald (q := 30) (n := 2) (j := 50) rfl rfl rfl rfl h4 (by rw [c9]; rfl) ?_
          refine w_callv (q := 33) rfl rfl rfl rfl rfl rfl ?_
          exact k
        · replace k := k.2 c9
          refine w_aald (q := 30) (n := 2) (j := 64) rfl rfl rfl rfl h4 (by rw [show a1 = 1 by omega]; rfl) ?_
          refine w_callv (q := 33) rfl rfl rfl rfl rfl rfl ?_
          exact k
      · replace k := k.2 c6
        refine w_iconst (q := 19) rfl rfl ?_
        refine w_iret rfl rfl k
theorem b153_33 {xs : Nat → Int32} {xl : Nat} {I J : w_I} {b : Bool} {Q : Option Value → w_I → w_I → Bool → Prop} {u1 : Option Value} (k : Q (some (w_i 1)) I J b) : w_T xs xl 153 33 [some (.ref 0), u1] [] [] I J b Q := by
  refine w_iconst (q := 34) rfl rfl ?_
  refine w_iret rfl rfl k
theorem e154 {xs : Nat → Int32} {xl : Nat} {I J : w_I} {b : Bool} {Q : Option Value → w_I → w_I → Bool → Prop} {a1 : Int} (t : w_T xs xl 154 0 [some (.ref 0), some (w_i a1)] [] [] I J b Q) : w_C xs xl 154 [.ref 0, w_i a1] I J b Q := w_en rfl t
theorem b154_0 {xs : Nat → Int32} {xl : Nat} {I J : w_I} {b : Bool} {Q : Option Value → w_I → w_I → Bool → Prop} {a1 : Int} (k : ((-2147483648 ≤ a1 ∧ a1 < 2147483648) ∧ ((a1 = 0 → Q (some (w_i (I 2 5))) I J b) ∧ (¬ a1 = 0 → ((a1 = 1 → w_C xs xl 8 [.ref 20] I J b (fun v Ic Jc bc => w_T xs xl 154 87 [some (.ref 0), some (w_i a1)] [] (w_pv v []) Ic Jc bc Q)) ∧ (¬ a1 = 1 → ((a1 = 2 → w_C xs xl 9 [.ref 20] I J b (fun v Ic Jc bc => w_T xs xl 154 95 [some (.ref 0), some (w_i a1)] [] (w_pv v []) Ic Jc bc Q)) ∧ (¬ a1 = 2 → ((a1 = 3 → w_C xs xl 10 [.ref 20] I J b (fun v Ic Jc bc => w_T xs xl 154 103 [some (.ref 0), some (w_i a1)] [] (w_pv v []) Ic Jc bc Q)) ∧ (¬ a1 = 3 → ((a1 = 4 → Q (some (w_i (I 20 15))) I J b) ∧ (¬ a1 = 4 → ((a1 = 5 → Q (some (w_i (I 20 16))) I J b) ∧ (¬ a1 = 5 → ((a1 = 6 → Q (some (w_i (I 0 1))) I J b) ∧ (¬ a1 = 6 → ((a1 = 7 → ((-2147483648 ≤ I 49 0 ∧ I 49 0 < 2147483648) ∧ ((I 49 0 = 0 → ((-2147483648 ≤ I 49 1 ∧ I 49 1 < 2147483648) ∧ ((I 49 1 = 0 → Q (some (w_i (0 + 0))) I J b) ∧ (¬ I 49 1 = 0 → Q (some (w_i (0 + 1))) I J b)))) ∧ (¬ I 49 0 = 0 → ((-2147483648 ≤ I 49 1 ∧ I 49 1 < 2147483648) ∧ ((I 49 1 = 0 → Q (some (w_i (1 + 0))) I J b) ∧ (¬ I 49 1 = 0 → Q (some (w_i (1 + 1))) I J b))))))) ∧ (¬ a1 = 7 → ((a1 = 8 → Q (some (w_i (I 2 6))) I J b) ∧ (¬ a1 = 8 → ((a1 = 9 → Q (some (w_i (I 2 7))) I J b) ∧ (¬ a1 = 9 → ((a1 = 10 → Q (some (w_i (I 2 8))) I J b) ∧ (¬ a1 = 10 → ((a1 = 11 → ((-2147483648 ≤ I 2 10 ∧ I 2 10 < 2147483648) ∧ ((I 2 10 = 0 → Q (some (w_i 0)) I J b) ∧ (¬ I 2 10 = 0 → Q (some (w_i 1)) I J b)))) ∧ (¬ a1 = 11 → ((a1 = 12 → Q (some (w_i (I 20 13))) I J b) ∧ (¬ a1 = 12 → ((a1 = 13 → Q (some (w_i (I 20 14))) I J b) ∧ (¬ a1 = 13 → Q (some (w_i (-1))) I J b)))))))))))))))))))))))))))))) : w_T xs xl 154 0 [some (.ref 0), some (w_i a1)] [] [] I J b Q := by
  refine w_iload_n (q := 1) rfl rfl rfl ?_
  obtain ⟨h1, k⟩ := k
  rcases Decidable.em (a1 = 0) with c2 | c2
  · replace k := k.1 c2
    refine w_tsw (t := 72) rfl h1 (by rw [c2]; rfl) ?_
    refine w_aload_n (q := 73) rfl rfl rfl ?_
    refine w_gfr (q := 76) rfl rfl rfl rfl (j := 2) rfl ?_
    refine w_gfi (q := 79) (k' := 5) (v := I 2 5) rfl rfl rfl rfl rfl rfl rfl ?_
    exact w_iret rfl rfl k
  · replace k := k.2 c2
    rcases Decidable.em (a1 = 1) with c3 | c3
    · replace k := k.1 c3
      refine w_tsw (t := 80) rfl h1 (by rw [c3]; rfl) ?_
      refine w_aload_n (q := 81) rfl rfl rfl ?_
      refine w_gfr (q := 84) rfl rfl rfl rfl (j := 20) rfl ?_
      refine w_callv (q := 87) rfl rfl rfl rfl rfl rfl ?_
      exact k
    · replace k := k.2 c3
      rcases Decidable.em (a1 = 2) with c4 | c4
      · replace k := k.1 c4
        refine w_tsw (t := 88) rfl h1 (by rw [c4]; rfl) ?_
        refine w_aload_n (q := 89) rfl rfl rfl ?_
        refine w_gfr (q := 92) rfl rfl rfl rfl (j := 20) rfl ?_
        refine w_callv (q := 95) rfl rfl rfl rfl rfl rfl ?_
        exact k
      · replace k := k.2 c4
        rcases Decidable.em (a1 = 3) with c5 | c5
        · replace k := k.1 c5
          refine w_tsw (t := 96) rfl h1 (by rw [c5]; rfl) ?_
          refine w_aload_n (q := 97) rfl rfl rfl ?_
          refine w_gfr (q := 100) rfl rfl rfl rfl (j := 20) rfl ?_
          refine w_callv (q := 103) rfl rfl rfl rfl rfl rfl ?_
          exact k
        · replace k := k.2 c5
          rcases Decidable.em (a1 = 4) with c6 | c6
          · replace k := k.1 c6
            refine w_tsw (t := 104) rfl h1 (by rw [c6]; rfl) ?_
            refine w_aload_n (q := 105) rfl rfl rfl ?_
            refine w_gfr (q := 108) rfl rfl rfl rfl (j := 20) rfl ?_
            refine w_gfi (q := 111) (k' := 15) (v := I 20 15) rfl rfl rfl rfl rfl rfl rfl ?_
            exact w_iret rfl rfl k
          · replace k := k.2 c6
            rcases Decidable.em (a1 = 5) with c7 | c7
            · replace k := k.1 c7
              refine w_tsw (t := 112) rfl h1 (by rw [c7]; rfl) ?_
              refine w_aload_n (q := 113) rfl rfl rfl ?_
              refine w_gfr (q := 116) rfl rfl rfl rfl (j := 20) rfl ?_
              refine w_gfi (q := 119) (k' := 16) (v := I 20 16) rfl rfl rfl rfl rfl rfl rfl ?_
              exact w_iret rfl rfl k
            · replace k := k.2 c7
              rcases Decidable.em (a1 = 6) with c8 | c8
              · replace k := k.1 c8
                refine w_tsw (t := 120) rfl h1 (by rw [c8]; rfl) ?_
                refine w_aload_n (q := 121) rfl rfl rfl ?_
                refine w_gfi (q := 124) (k' := 1) (v := I 0 1) rfl rfl rfl rfl rfl rfl rfl ?_
                exact w_iret rfl rfl k
              · replace k := k.2 c8
                rcases Decidable.em (a1 = 7) with c9 | c9
                · replace k := k.1 c9
                  refine w_tsw (t := 125) rfl h1 (by rw [c9]; rfl) ?_
                  refine w_aload_n (q := 126) rfl rfl rfl ?_
                  refine w_gfr (q := 129) rfl rfl rfl rfl (j := 49) rfl ?_
                  refine w_iconst (q := 130) rfl rfl ?_
                  refine w_bald2 (q := 131) (n := 2) (v := I 49 0) rfl rfl rfl rfl rfl rfl (by decide) ?_
                  obtain ⟨h10, k⟩ := k
                  refine w_zeq (t := 138) (q := 134) rfl rfl rfl h10 (fun c11 => ?_) (fun c11 => ?_)
                  · replace k := k.1 c11
                    refine w_iconst (q := 139) rfl rfl ?_
                    refine w_aload_n (q := 140) rfl rfl rfl ?_
                    refine w_gfr (q := 143) rfl rfl rfl rfl (j := 49) rfl ?_
                    refine w_iconst (q := 144) rfl rfl ?_
                    refine w_bald2 (q := 145) (n := 2) (v := I 49 1) rfl rfl rfl rfl rfl rfl (by decide) ?_
                    obtain ⟨h12, k⟩ := k
                    refine w_zeq (t := 152) (q := 148) rfl rfl rfl h12 (fun c13 => ?_) (fun c13 => ?_)
                    · replace k := k.1 c13
                      refine w_iconst (q := 153) rfl rfl ?_
                      refine w_iadd (q := 154) rfl rfl ?_
                      exact w_iret rfl rfl k
                    · replace k := k.2 c13
                      refine w_iconst (q := 149) rfl rfl ?_
                      refine w_goto (t := 153) rfl rfl ?_
                      refine w_iadd (q := 154) rfl rfl ?_
                      exact w_iret rfl rfl k
                  · replace k := k.2 c11
                    refine w_iconst (q := 135) rfl rfl ?_
                    refine w_goto (t := 139) rfl rfl ?_
                    refine w_aload_n (q := 140) rfl rfl rfl ?_
                    refine w_gfr (q := 143) rfl rfl rfl rfl (j := 49) rfl ?_
                    refine w_iconst (q := 144) rfl rfl ?_
                    refine w_bald2 (q := 145) (n := 2) (v := I 49 1) rfl rfl rfl rfl rfl rfl (by decide) ?_
                    obtain ⟨h14, k⟩ := k
                    refine w_zeq (t := 152) (q := 148) rfl rfl rfl h14 (fun c15 => ?_) (fun c15 => ?_)
                    · replace k := k.1 c15
                      refine w_iconst (q := 153) rfl rfl ?_
                      refine w_iadd (q := 154) rfl rfl ?_
                      exact w_iret rfl rfl k
                    · replace k := k.2 c15
                      refine w_iconst (q := 149) rfl rfl ?_
                      refine w_goto (t := 153) rfl rfl ?_
                      refine w_iadd (q := 154) rfl rfl ?_
                      exact w_iret rfl rfl k
                · replace k := k.2 c9
                  rcases Decidable.em (a1 = 8) with c16 | c16
                  · replace k := k.1 c16
                    refine w_tsw (t := 155) rfl h1 (by rw [c16]; rfl) ?_
                    refine w_aload_n (q := 156) rfl rfl rfl ?_
                    refine w_gfr (q := 159) rfl rfl rfl rfl (j := 2) rfl ?_
                    refine w_gfi (q := 162) (k' := 6) (v := I 2 6) rfl rfl rfl rfl rfl rfl rfl ?_
                    exact w_iret rfl rfl k
                  · replace k := k.2 c16
                    rcases Decidable.em (a1 = 9) with c17 | c17
                    · replace k := k.1 c17
                      refine w_tsw (t := 163) rfl h1 (by rw [c17]; rfl) ?_
                      refine w_aload_n (q := 164) rfl rfl rfl ?_
                      refine w_gfr (q := 167) rfl rfl rfl rfl (j := 2) rfl ?_
                      refine w_gfi (q := 170) (k' := 7) (v := I 2 7) rfl rfl rfl rfl rfl rfl rfl ?_
                      exact w_iret rfl rfl k
                    · replace k := k.2 c17
                      rcases Decidable.em (a1 = 10) with c18 | c18
                      · replace k := k.1 c18
                        refine w_tsw (t := 171) rfl h1 (by rw [c18]; rfl) ?_
                        refine w_aload_n (q := 172) rfl rfl rfl ?_
                        refine w_gfr (q := 175) rfl rfl rfl rfl (j := 2) rfl ?_
                        refine w_gfi (q := 178) (k' := 8) (v := I 2 8) rfl rfl rfl rfl rfl rfl rfl ?_
                        exact w_iret rfl rfl k
                      · replace k := k.2 c18
                        rcases Decidable.em (a1 = 11) with c19 | c19
                        · replace k := k.1 c19
                          refine w_tsw (t := 179) rfl h1 (by rw [c19]; rfl) ?_
                          refine w_aload_n (q := 180) rfl rfl rfl ?_
                          refine w_gfr (q := 183) rfl rfl rfl rfl (j := 2) rfl ?_
                          refine w_gfi (q := 186) (k' := 10) (v := I 2 10) rfl rfl rfl rfl rfl rfl rfl ?_
                          obtain ⟨h20, k⟩ := k
                          refine w_zeq (t := 193) (q := 189) rfl rfl rfl h20 (fun c21 => ?_) (fun c21 => ?_)
                          · replace k := k.1 c21
                            refine w_iconst (q := 194) rfl rfl ?_
                            exact w_iret rfl rfl k
                          · replace k := k.2 c21
                            refine w_iconst (q := 190) rfl rfl ?_
                            refine w_goto (t := 194) rfl rfl ?_
                            exact w_iret rfl rfl k
                        · replace k := k.2 c19
                          rcases Decidable.em (a1 = 12) with c22 | c22
                          · replace k := k.1 c22
                            refine w_tsw (t := 195) rfl h1 (by rw [c22]; rfl) ?_
                            refine w_aload_n (q := 196) rfl rfl rfl ?_
                            refine w_gfr (q := 199) rfl rfl rfl rfl (j := 20) rfl ?_
                            refine w_gfi (q := 202) (k' := 13) (v := I 20 13) rfl rfl rfl rfl rfl rfl rfl ?_
                            exact w_iret rfl rfl k
                          · replace k := k.2 c22
                            rcases Decidable.em (a1 = 13) with c23 | c23
                            · replace k := k.1 c23
                              refine w_tsw (t := 203) rfl h1 (by rw [c23]; rfl) ?_
                              refine w_aload_n (q := 204) rfl rfl rfl ?_
                              refine w_gfr (q := 207) rfl rfl rfl rfl (j := 20) rfl ?_
                              refine w_gfi (q := 210) (k' := 14) (v := I 20 14) rfl rfl rfl rfl rfl rfl rfl ?_
                              exact w_iret rfl rfl k
                            · replace k := k.2 c23
                              have hd : a1 < 0 ∨ 13 < a1 := by omega
                              refine w_tsw (t := 211) rfl h1 (by rw [if_pos hd]; rfl) ?_
                              refine w_iconst (q := 212) rfl rfl ?_
                              exact w_iret rfl rfl k
theorem b154_87 {xs : Nat → Int32} {xl : Nat} {I J : w_I} {b : Bool} {Q : Option Value → w_I → w_I → Bool → Prop} {u1 : Option Value} {s0 : Int} (k : Q (some (w_i s0)) I J b) : w_T xs xl 154 87 [some (.ref 0), u1] [] [w_i s0] I J b Q := by
  exact w_iret rfl rfl k
theorem b154_95 {xs : Nat → Int32} {xl : Nat} {I J : w_I} {b : Bool} {Q : Option Value → w_I → w_I → Bool → Prop} {u1 : Option Value} {s0 : Int} (k : Q (some (w_i s0)) I J b) : w_T xs xl 154 95 [some (.ref 0), u1] [] [w_i s0] I J b Q := by
  exact w_iret rfl rfl k
theorem b154_103 {xs : Nat → Int32} {xl : Nat} {I J : w_I} {b : Bool} {Q : Option Value → w_I → w_I → Bool → Prop} {u1 : Option Value} {s0 : Int} (k : Q (some (w_i s0)) I J b) : w_T xs xl 154 103 [some (.ref 0), u1] [] [w_i s0] I J b Q := by
  exact w_iret rfl rfl k
theorem e155 {xs : Nat → Int32} {xl : Nat} {I J : w_I} {b : Bool} {Q : Option Value → w_I → w_I → Bool → Prop} {a1 : Int} (t : w_T xs xl 155 0 [some (.ref 0), some (w_i a1), none] [] [] I J b Q) : w_C xs xl 155 [.ref 0, w_i a1] I J b Q := w_en rfl t
theorem b155_0 {xs : Nat → Int32} {xl : Nat} {I J : w_I} {b : Bool} {Q : Option Value → w_I → w_I → Bool → Prop} {a1 : Int} (k : w_T xs xl 155 3 [some (.ref 0), some (w_i a1), some (w_i 24)] [] [] I J b Q) : w_T xs xl 155 0 [some (.ref 0), some (w_i a1), none] [] [] I J b Q := by
  refine w_bipush (q := 2) rfl rfl rfl ?_
  refine w_istore_n (q := 3) (L' := [some (.ref 0), some (w_i a1), some (w_i 24)]) (M' := []) rfl rfl rfl rfl rfl ?_
  exact k
theorem b155_3 {xs : Nat → Int32} {xl : Nat} {I J : w_I} {b : Bool} {Q : Option Value → w_I → w_I → Bool → Prop} {l1 l2 : Int} (k : ((-2147483648 ≤ l2 ∧ l2 < 2147483648) ∧ ((l2 < 0 → Q none I J b) ∧ (¬ l2 < 0 → ((0 ≤ I 0 1 ∧ I 0 1 < 2000) ∧ w_T xs xl 155 3 [some (.ref 0), some (w_i l1), some (w_i (l2 + (-8)))] [] [] (w_U (w_U I 1 (I 0 1) (w_by (w_by (w_shr l1 l2)))) 0 1 (I 0 1 + 1)) J b Q))))) : w_T xs xl 155 3 [some (.ref 0), some (w_i l1), some (w_i l2)] [] [] I J b Q := by
  refine w_iload_n (q := 4) rfl rfl rfl ?_
  obtain ⟨h1, k⟩ := k
  refine w_zlt (t := 36) (q := 7) rfl rfl rfl h1 (fun c2 => ?_) (fun c2 => ?_)
  · replace k := k.1 c2
    exact w_vret rfl k
  · replace k := k.2 c2
    refine w_aload_n (q := 8) rfl rfl rfl ?_
    refine w_gfr (q := 11) rfl rfl rfl rfl (j := 1) rfl ?_
    refine w_aload_n (q := 12) rfl rfl rfl ?_
    refine w_gfi (q := 15) (k' := 1) (v := I 0 1) rfl rfl rfl rfl rfl rfl rfl ?_
    refine w_iload_n (q := 16) rfl rfl rfl ?_
    refine w_iload_n (q := 17) rfl rfl rfl ?_
    refine w_ishr (q := 18) rfl rfl ?_
    refine w_i2b (q := 19) rfl rfl ?_
    obtain ⟨h3, k⟩ := k
    refine w_bast1 (q := 20) (n := 2000) rfl rfl rfl rfl rfl h3 ?_
    refine w_aload_n (q := 21) rfl rfl rfl ?_
    refine w_dup (q := 22) rfl rfl rfl ?_
    refine w_gfi (q := 25) (k' := 1) (v := I 0 1) rfl rfl rfl rfl rfl rfl rfl ?_
    refine w_iconst (q := 26) rfl rfl ?_
    refine w_iadd (q := 27) rfl rfl ?_
    refine w_pfi (q := 30) (k' := 1) rfl rfl rfl rfl ?_
    refine w_iinc (q := 33) (L' := [some (.ref 0), some (w_i l1), some (w_i (l2 + (-8)))]) (M' := []) rfl rfl rfl rfl rfl rfl ?_
    refine w_goto (t := 3) rfl rfl ?_
    exact k
theorem e156 {xs : Nat → Int32} {xl : Nat} {I J : w_I} {b : Bool} {Q : Option Value → w_I → w_I → Bool → Prop} {a1 : Int} (t : w_T xs xl 156 0 [some (.ref 0), some (w_i a1)] [] [] I J b Q) : w_C xs xl 156 [.ref 0, w_i a1] I J b Q := w_en rfl t
theorem b156_0 {xs : Nat → Int32} {xl : Nat} {I J : w_I} {b : Bool} {Q : Option Value → w_I → w_I → Bool → Prop} {a1 : Int} (k : ((-2147483648 ≤ a1 ∧ a1 < 2147483648) ∧ ((a1 < 0 → Q (some (w_i 0)) I J b) ∧ (¬ a1 < 0 → ((-2147483648 ≤ I 2 5 ∧ I 2 5 < 2147483648) ∧ ((I 2 5 ≤ a1 → Q (some (w_i 0)) I J b) ∧ (¬ I 2 5 ≤ a1 → Q (some (w_i 1)) I J b))))))) : w_T xs xl 156 0 [some (.ref 0), some (w_i a1)] [] [] I J b Q := by
  refine w_iload_n (q := 1) rfl rfl rfl ?_
  obtain ⟨h1, k⟩ := k
  refine w_zlt (t := 19) (q := 4) rfl rfl rfl h1 (fun c2 => ?_) (fun c2 => ?_)
  · replace k := k.1 c2
    refine w_iconst (q := 20) rfl rfl ?_
    refine w_iret rfl rfl k
  · replace k := k.2 c2
    refine w_iload_n (q := 5) rfl rfl rfl ?_
    refine w_aload_n (q := 6) rfl rfl rfl ?_
    refine w_gfr (q := 9) rfl rfl rfl rfl (j := 2) rfl ?_
    refine w_gfi (q := 12) (k' := 5) (v := I 2 5) rfl rfl rfl rfl rfl rfl rfl ?_
    obtain ⟨h3, k⟩ := k
    refine w_cge (t := 19) (q := 15) rfl rfl rfl h1 h3 (fun c4 => ?_) (fun c4 => ?_)
    · replace k := k.1 c4
      refine w_iconst (q := 20) rfl rfl ?_
      refine w_iret rfl rfl k
    · replace k := k.2 c4
      refine w_iconst (q := 16) rfl rfl ?_
      refine w_goto (t := 20) rfl rfl ?_
      refine w_iret rfl rfl k
theorem e157 {xs : Nat → Int32} {xl : Nat} {I J : w_I} {b : Bool} {Q : Option Value → w_I → w_I → Bool → Prop} {a1 : Int} (t : w_T xs xl 157 0 [some (.ref 0), some (w_i a1)] [] [] I J b Q) : w_C xs xl 157 [.ref 0, w_i a1] I J b Q := w_en rfl t
theorem b157_0 {xs : Nat → Int32} {xl : Nat} {I J : w_I} {b : Bool} {Q : Option Value → w_I → w_I → Bool → Prop} {a1 : Int} (k : w_C xs xl 6 [.ref 20, w_i a1] I J b (fun v Ic Jc bc => w_T xs xl 157 8 [some (.ref 0), some (w_i a1)] [] (w_pv v []) Ic Jc bc Q)) : w_T xs xl 157 0 [some (.ref 0), some (w_i a1)] [] [] I J b Q := by
  refine w_aload_n (q := 1) rfl rfl rfl ?_
  refine w_gfr (q := 4) rfl rfl rfl rfl (j := 20) rfl ?_
  refine w_iload_n (q := 5) rfl rfl rfl ?_
  refine w_callv (q := 8) rfl rfl rfl rfl rfl rfl ?_
  exact k
theorem b157_8 {xs : Nat → Int32} {xl : Nat} {I J : w_I} {b : Bool} {Q : Option Value → w_I → w_I → Bool → Prop} {l1 s0 : Int} (k : ((-2147483648 ≤ s0 ∧ s0 < 2147483648) ∧ ((s0 = 0 → Q (some (w_i 0)) I J b) ∧ (¬ s0 = 0 → ((0 ≤ l1 ∧ l1 < 30) ∧ ((-2147483648 ≤ I 28 l1 ∧ I 28 l1 < 2147483648) ∧ ((I 28 l1 = (-1) → Q (some (w_i 0)) I J b) ∧ (¬ I 28 l1 = (-1) → Q (some (w_i 1)) I J b)))))))) : w_T xs xl 157 8 [some (.ref 0), some (w_i l1)] [] [w_i s0] I J b Q := by
  obtain ⟨h1, k⟩ := k
  refine w_zeq (t := 28) (q := 11) rfl rfl rfl h1 (fun c2 => ?_) (fun c2 => ?_)
  · replace k := k.1 c2
    refine w_iconst (q := 29) rfl rfl ?_
    refine w_iret rfl rfl k
  · replace k := k.2 c2
    refine w_aload_n (q := 12) rfl rfl rfl ?_
    refine w_gfr (q := 15) rfl rfl rfl rfl (j := 20) rfl ?_
    refine w_gfr (q := 18) rfl rfl rfl rfl (j := 28) rfl ?_
    refine w_iload_n (q := 19) rfl rfl rfl ?_
    obtain ⟨h3, k⟩ := k
    refine w_iald (q := 20) (n := 30) (v := I 28 l1) rfl rfl rfl rfl rfl rfl h3 ?_
    refine w_iconst (q := 21) rfl rfl ?_
    obtain ⟨h4, k⟩ := k
    refine w_ceq (t := 28) (q := 24) rfl rfl rfl h4 (by decide) (fun c5 => ?_) (fun c5 => ?_)
    · replace k := k.1 c5
      refine w_iconst (q := 29) rfl rfl ?_
      refine w_iret rfl rfl k
    · replace k := k.2 c5
      refine w_iconst (q := 25) rfl rfl ?_
      refine w_goto (t := 29) rfl rfl ?_
      refine w_iret rfl rfl k
theorem e158 {xs : Nat → Int32} {xl : Nat} {I J : w_I} {b : Bool} {Q : Option Value → w_I → w_I → Bool → Prop} {a1 : Int} (t : w_T xs xl 158 0 [some (.ref 0), some (w_i a1)] [] [] I J b Q) : w_C xs xl 158 [.ref 0, w_i a1] I J b Q := w_en rfl t
theorem b158_0 {xs : Nat → Int32} {xl : Nat} {I J : w_I} {b : Bool} {Q : Option Value → w_I → w_I → Bool → Prop} {a1 : Int} (k : ((-2147483648 ≤ a1 ∧ a1 < 2147483648) ∧ ((a1 = (-1) → Q (some (w_i 1)) I J b) ∧ (¬ a1 = (-1) → w_C xs xl 6 [.ref 20, w_i a1] I J b (fun v Ic Jc bc => w_T xs xl 158 13 [some (.ref 0), some (w_i a1)] [] (w_pv v []) Ic Jc bc Q))))) : w_T xs xl 158 0 [some (.ref 0), some (w_i a1)] [] [] I J b Q := by
  refine w_iload_n (q := 1) rfl rfl rfl ?_
  refine w_iconst (q := 2) rfl rfl ?_
  obtain ⟨h1, k⟩ := k
  refine w_ceq (t := 29) (q := 5) rfl rfl rfl h1 (by decide) (fun c2 => ?_) (fun c2 => ?_)
  · replace k := k.1 c2
    refine w_iconst (q := 30) rfl rfl ?_
    refine w_goto (t := 34) rfl rfl ?_
    refine w_iret rfl rfl k
  · replace k := k.2 c2
    refine w_aload_n (q := 6) rfl rfl rfl ?_
    refine w_gfr (q := 9) rfl rfl rfl rfl (j := 20) rfl ?_
    refine w_iload_n (q := 10) rfl rfl rfl ?_
    refine w_callv (q := 13) rfl rfl rfl rfl rfl rfl ?_
    exact k
theorem b158_13 {xs : Nat → Int32} {xl : Nat} {I J : w_I} {b : Bool} {Q : Option Value → w_I → w_I → Bool → Prop} {l1 s0 : Int} (k : ((-2147483648 ≤ s0 ∧ s0 < 2147483648) ∧ ((s0 = 0 → Q (some (w_i 0)) I J b) ∧ (¬ s0 = 0 → ((0 ≤ l1 ∧ l1 < 30) ∧ ((-2147483648 ≤ I 28 l1 ∧ I 28 l1 < 2147483648) ∧ ((¬ I 28 l1 = (-1) → Q (some (w_i 0)) I J b) ∧ (I 28 l1 = (-1) → Q (some (w_i 1)) I J b)))))))) : w_T xs xl 158 13 [some (.ref 0), some (w_i l1)] [] [w_i s0] I J b Q := by
  obtain ⟨h1, k⟩ := k
  refine w_zeq (t := 33) (q := 16) rfl rfl rfl h1 (fun c2 => ?_) (fun c2 => ?_)
  · replace k := k.1 c2
    refine w_iconst (q := 34) rfl rfl ?_
    refine w_iret rfl rfl k
  · replace k := k.2 c2
    refine w_aload_n (q := 17) rfl rfl rfl ?_
    refine w_gfr (q := 20) rfl rfl rfl rfl (j := 20) rfl ?_
    refine w_gfr (q := 23) rfl rfl rfl rfl (j := 28) rfl ?_
    refine w_iload_n (q := 24) rfl rfl rfl ?_
    obtain ⟨h3, k⟩ := k
    refine w_iald (q := 25) (n := 30) (v := I 28 l1) rfl rfl rfl rfl rfl rfl h3 ?_
    refine w_iconst (q := 26) rfl rfl ?_
    obtain ⟨h4, k⟩ := k
    refine w_cne (t := 33) (q := 29) rfl rfl rfl h4 (by decide) (fun c5 => ?_) (fun c5 => ?_)
    · replace k := k.1 c5
      refine w_iconst (q := 34) rfl rfl ?_
      refine w_iret rfl rfl k
    · replace k := k.2 c5
      refine w_iconst (q := 30) rfl rfl ?_
      refine w_goto (t := 34) rfl rfl ?_
      refine w_iret rfl rfl k
theorem e159 {xs : Nat → Int32} {xl : Nat} {I J : w_I} {b : Bool} {Q : Option Value → w_I → w_I → Bool → Prop} {a1 : Int} (t : w_T xs xl 159 0 [some (.ref 0), some (w_i a1)] [] [] I J b Q) : w_C xs xl 159 [.ref 0, w_i a1] I J b Q := w_en rfl t
theorem b159_0 {xs : Nat → Int32} {xl : Nat} {I J : w_I} {b : Bool} {Q : Option Value → w_I → w_I → Bool → Prop} {a1 : Int} (k : ((-2147483648 ≤ I 2 7 ∧ I 2 7 < 2147483648) ∧ ((I 2 7 ≤ 0 → Q (some (w_i 0)) I J b) ∧ (¬ I 2 7 ≤ 0 → (((0 : Int) ≤ a1 + I 2 7 - 1 ∧ a1 + I 2 7 - 1 < 2147483648 ∧ (0 : Int) < I 2 7 ∧ I 2 7 < (2147483648 : Int)) ∧ Q (some (w_i ((a1 + I 2 7 - 1) / I 2 7))) I J b))))) : w_T xs xl 159 0 [some (.ref 0), some (w_i a1)] [] [] I J b Q := by
  refine w_aload_n (q := 1) rfl rfl rfl ?_
  refine w_gfr (q := 4) rfl rfl rfl rfl (j := 2) rfl ?_
  refine w_gfi (q := 7) (k' := 7) (v := I 2 7) rfl rfl rfl rfl rfl rfl rfl ?_
  obtain ⟨h1, k⟩ := k
  refine w_zle (t := 32) (q := 10) rfl rfl rfl h1 (fun c2 => ?_) (fun c2 => ?_)
  · replace k := k.1 c2
    refine w_iconst (q := 33) rfl rfl ?_
    exact w_iret rfl rfl k
  · replace k := k.2 c2
    refine w_iload_n (q := 11) rfl rfl rfl ?_
    refine w_aload_n (q := 12) rfl rfl rfl ?_
    refine w_gfr (q := 15) rfl rfl rfl rfl (j := 2) rfl ?_
    refine w_gfi (q := 18) (k' := 7) (v := I 2 7) rfl rfl rfl rfl rfl rfl rfl ?_
    refine w_iadd (q := 19) rfl rfl ?_
    refine w_iconst (q := 20) rfl rfl ?_
    refine w_isub (q := 21) rfl rfl ?_
    refine w_aload_n (q := 22) rfl rfl rfl ?_
    refine w_gfr (q := 25) rfl rfl rfl rfl (j := 2) rfl ?_
    refine w_gfi (q := 28) (k' := 7) (v := I 2 7) rfl rfl rfl rfl rfl rfl rfl ?_
    obtain ⟨h3, k⟩ := k
    refine w_idiv (q := 29) rfl rfl h3 ?_
    refine w_goto (t := 33) rfl rfl ?_
    exact w_iret rfl rfl k
theorem e160 {xs : Nat → Int32} {xl : Nat} {I J : w_I} {b : Bool} {Q : Option Value → w_I → w_I → Bool → Prop} {a0 : Int} (t : w_T xs xl 160 0 [some (w_i a0)] [] [] I J b Q) : w_C xs xl 160 [w_i a0] I J b Q := w_en rfl t
theorem b160_0 {xs : Nat → Int32} {xl : Nat} {I J : w_I} {b : Bool} {Q : Option Value → w_I → w_I → Bool → Prop} {a0 : Int} (k : ((-2147483648 ≤ a0 ∧ a0 < 2147483648) ∧ ((a0 < 0 → Q (some (w_i 0)) I J b) ∧ (¬ a0 < 0 → ((99 < a0 → Q (some (w_i 0)) I J b) ∧ (¬ 99 < a0 → Q (some (w_i 1)) I J b)))))) : w_T xs xl 160 0 [some (w_i a0)] [] [] I J b Q := by
  refine w_iload_n (q := 1) rfl rfl rfl ?_
  obtain ⟨h1, k⟩ := k
  refine w_zlt (t := 14) (q := 4) rfl rfl rfl h1 (fun c2 => ?_) (fun c2 => ?_)
  · replace k := k.1 c2
    refine w_iconst (q := 15) rfl rfl ?_
    refine w_iret rfl rfl k
  · replace k := k.2 c2
    refine w_iload_n (q := 5) rfl rfl rfl ?_
    refine w_bipush (q := 7) rfl rfl rfl ?_
    refine w_cgt (t := 14) (q := 10) rfl rfl rfl h1 (by decide) (fun c3 => ?_) (fun c3 => ?_)
    · replace k := k.1 c3
      refine w_iconst (q := 15) rfl rfl ?_
      refine w_iret rfl rfl k
    · replace k := k.2 c3
      refine w_iconst (q := 11) rfl rfl ?_
      refine w_goto (t := 15) rfl rfl ?_
      refine w_iret rfl rfl k
theorem e161 {xs : Nat → Int32} {xl : Nat} {I J : w_I} {b : Bool} {Q : Option Value → w_I → w_I → Bool → Prop} {a0 a1 : Int} (t : w_T xs xl 161 0 [some (w_i a0), some (w_i a1)] [] [] I J b Q) : w_C xs xl 161 [w_i a0, w_i a1] I J b Q := w_en rfl t
theorem b161_0 {xs : Nat → Int32} {xl : Nat} {I J : w_I} {b : Bool} {Q : Option Value → w_I → w_I → Bool → Prop} {a0 a1 : Int} (k : ((-2147483648 ≤ a1 ∧ a1 < 2147483648) ∧ (-2147483648 ≤ a0 ∧ a0 < 2147483648) ∧ ((-2147483648 ≤ min a1 a0 ∧ min a1 a0 < 2147483648) ∧ Q (some (w_i (max 0 (min a1 a0)))) I J b))) : w_T xs xl 161 0 [some (w_i a0), some (w_i a1)] [] [] I J b Q := by
  refine w_iconst (q := 1) rfl rfl ?_
  refine w_iload_n (q := 2) rfl rfl rfl ?_
  refine w_iload_n (q := 3) rfl rfl rfl ?_
  obtain ⟨h1, h2, k⟩ := k
  refine w_min (q := 6) rfl rfl rfl h1 h2 ?_
  obtain ⟨h3, k⟩ := k
  refine w_max (q := 9) rfl rfl rfl (by decide) h3 ?_
  exact w_iret rfl rfl k
theorem e162 {xs : Nat → Int32} {xl : Nat} {I J : w_I} {b : Bool} {Q : Option Value → w_I → w_I → Bool → Prop} {a0 : Int} (t : w_T xs xl 162 0 [some (w_i a0)] [] [] I J b Q) : w_C xs xl 162 [w_i a0] I J b Q := w_en rfl t
theorem b162_0 {xs : Nat → Int32} {xl : Nat} {I J : w_I} {b : Bool} {Q : Option Value → w_I → w_I → Bool → Prop} {a0 : Int} (k : ((-2147483648 ≤ a0 ∧ a0 < 2147483648) ∧ ((¬ a0 = (-1) → Q (some (w_i a0)) I J b) ∧ (a0 = (-1) → Q (some (w_i (-2))) I J b)))) : w_T xs xl 162 0 [some (w_i a0)] [] [] I J b Q := by
  refine w_iload_n (q := 1) rfl rfl rfl ?_
  refine w_iconst (q := 2) rfl rfl ?_
  obtain ⟨h1, k⟩ := k
  refine w_cne (t := 10) (q := 5) rfl rfl rfl h1 (by decide) (fun c2 => ?_) (fun c2 => ?_)
  · replace k := k.1 c2
    refine w_iload_n (q := 11) rfl rfl rfl ?_
    exact w_iret rfl rfl k
  · replace k := k.2 c2
    refine w_bipush (q := 7) rfl rfl rfl ?_
    refine w_goto (t := 11) rfl rfl ?_
    exact w_iret rfl rfl k
theorem e164 {xs : Nat → Int32} {xl : Nat} {I J : w_I} {b : Bool} {Q : Option Value → w_I → w_I → Bool → Prop} {a1 a2 a3 a4 a5 : Int} (t : w_T xs xl 164 0 [some (.ref 104), some (w_i a1), some (w_i a2), some (w_i a3), some (w_i a4), some (w_i a5)] [] [] I J b Q) : w_C xs xl 164 [.ref 104, w_i a1, w_i a2, w_i a3, w_i a4, w_i a5] I J b Q := w_en rfl t
theorem b164_0 {xs : Nat → Int32} {xl : Nat} {I J : w_I} {b : Bool} {Q : Option Value → w_I → w_I → Bool → Prop} {a1 a2 a3 a4 a5 : Int} (k : ((-2147483648 ≤ I 104 0 + 20 ∧ I 104 0 + 20 < 2147483648) ∧ ((I 104 0 + 20 ≤ 2000 → w_C xs xl 165 [.ref 104, w_i a1] I J b (fun v Ic Jc bc => w_T xs xl 164 20 [some (.ref 104), some (w_i a1), some (w_i a2), some (w_i a3), some (w_i a4), some (w_i a5)] [] (w_pv v []) Ic Jc bc Q)) ∧ (¬ I 104 0 + 20 ≤ 2000 → Q (some (w_i (-1))) I J b)))) : w_T xs xl 164 0 [some (.ref 104), some (w_i a1), some (w_i a2), some (w_i a3), some (w_i a4), some (w_i a5)] [] [] I J b Q := by
  refine w_aload_n (q := 1) rfl rfl rfl ?_
  refine w_gfi (q := 4) (k' := 0) (v := I 104 0) rfl rfl rfl rfl rfl rfl rfl ?_
  refine w_bipush (q := 6) rfl rfl rfl ?_
  refine w_iadd (q := 7) rfl rfl ?_
  refine w_sipush (q := 10) rfl rfl rfl ?_
  obtain ⟨h1, k⟩ := k
  refine w_cle (t := 15) (q := 13) rfl rfl rfl h1 (by decide) (fun c2 => ?_) (fun c2 => ?_)
  · replace k := k.1 c2
    refine w_aload_n (q := 16) rfl rfl rfl ?_
    refine w_iload_n (q := 17) rfl rfl rfl ?_
    refine w_callv (q := 20) rfl rfl rfl rfl rfl rfl ?_
    exact k
  · replace k := k.2 c2
    refine w_iconst (q := 14) rfl rfl ?_
    exact w_iret rfl rfl k
theorem b164_20 {xs : Nat → Int32} {xl : Nat} {I J : w_I} {b : Bool} {Q : Option Value → w_I → w_I → Bool → Prop} {u1 : Option Value} {l2 l3 l4 l5 : Int} (k : w_C xs xl 165 [.ref 104, w_i l2] I J b (fun v Ic Jc bc => w_T xs xl 164 25 [some (.ref 104), u1, some (w_i l2), some (w_i l3), some (w_i l4), some (w_i l5)] [] (w_pv v []) Ic Jc bc Q)) : w_T xs xl 164 20 [some (.ref 104), u1, some (w_i l2), some (w_i l3), some (w_i l4), some (w_i l5)] [] [] I J b Q := by
  refine w_aload_n (q := 21) rfl rfl rfl ?_
  refine w_iload_n (q := 22) rfl rfl rfl ?_
  refine w_callv (q := 25) rfl rfl rfl rfl rfl rfl ?_
  exact k
theorem b164_25 {xs : Nat → Int32} {xl : Nat} {I J : w_I} {b : Bool} {Q : Option Value → w_I → w_I → Bool → Prop} {u1 u2 : Option Value} {l3 l4 l5 : Int} (k : w_C xs xl 165 [.ref 104, w_i l3] I J b (fun v Ic Jc bc => w_T xs xl 164 30 [some (.ref 104), u1, u2, some (w_i l3), some (w_i l4), some (w_i l5)] [] (w_pv v []) Ic Jc bc Q)) : w_T xs xl 164 25 [some (.ref 104), u1, u2, some (w_i l3), some (w_i l4), some (w_i l5)] [] [] I J b Q := by
  refine w_aload_n (q := 26) rfl rfl rfl ?_
  refine w_iload_n (q := 27) rfl rfl rfl ?_
  refine w_callv (q := 30) rfl rfl rfl rfl rfl rfl ?_
  exact k
theorem b164_30 {xs : Nat → Int32} {xl : Nat} {I J : w_I} {b : Bool} {Q : Option Value → w_I → w_I → Bool → Prop} {u1 u2 u3 : Option Value} {l4 l5 : Int} (k : w_C xs xl 165 [.ref 104, w_i l4] I J b (fun v Ic Jc bc => w_T xs xl 164 36 [some (.ref 104), u1, u2, u3, some (w_i l4), some (w_i l5)] [] (w_pv v []) Ic Jc bc Q)) : w_T xs xl 164 30 [some (.ref 104), u1, u2, u3, some (w_i l4), some (w_i l5)] [] [] I J b Q := by
  refine w_aload_n (q := 31) rfl rfl rfl ?_
  refine w_iload (q := 33) rfl rfl rfl ?_
  refine w_callv (q := 36) rfl rfl rfl rfl rfl rfl ?_
  exact k
theorem b164_36 {xs : Nat → Int32} {xl : Nat} {I J : w_I} {b : Bool} {Q : Option Value → w_I → w_I → Bool → Prop} {u1 u2 u3 u4 : Option Value} {l5 : Int} (k : w_C xs xl 165 [.ref 104, w_i l5] I J b (fun v Ic Jc bc => w_T xs xl 164 42 [some (.ref 104), u1, u2, u3, u4, some (w_i l5)] [] (w_pv v []) Ic Jc bc Q)) : w_T xs xl 164 36 [some (.ref 104), u1, u2, u3, u4, some (w_i l5)] [] [] I J b Q := by
  refine w_aload_n (q := 37) rfl rfl rfl ?_
  refine w_iload (q := 39) rfl rfl rfl ?_
  refine w_callv (q := 42) rfl rfl rfl rfl rfl rfl ?_
  exact k
theorem b164_42 {xs : Nat → Int32} {xl : Nat} {I J : w_I} {b : Bool} {Q : Option Value → w_I → w_I → Bool → Prop} {u1 u2 u3 u4 u5 : Option Value} (k : Q (some (w_i (I 104 0))) I J b) : w_T xs xl 164 42 [some (.ref 104), u1, u2, u3, u4, u5] [] [] I J b Q := by
  refine w_aload_n (q := 43) rfl rfl rfl ?_
  refine w_gfi (q := 46) (k' := 0) (v := I 104 0) rfl rfl rfl rfl rfl rfl rfl ?_
  exact w_iret rfl rfl k
theorem e165 {xs : Nat → Int32} {xl : Nat} {I J : w_I} {b : Bool} {Q : Option Value → w_I → w_I → Bool → Prop} {a1 : Int} (t : w_T xs xl 165 0 [some (.ref 104), some (w_i a1), none] [] [] I J b Q) : w_C xs xl 165 [.ref 104, w_i a1] I J b Q := w_en rfl t
theorem b165_0 {xs : Nat → Int32} {xl : Nat} {I J : w_I} {b : Bool} {Q : Option Value → w_I → w_I → Bool → Prop} {a1 : Int} (k : w_T xs xl 165 2 [some (.ref 104), some (w_i a1), some (w_i 0)] [] [] I J b Q) : w_T xs xl 165 0 [some (.ref 104), some (w_i a1), none] [] [] I J b Q := by
  refine w_iconst (q := 1) rfl rfl ?_
  refine w_istore_n (q := 2) (L' := [some (.ref 104), some (w_i a1), some (w_i 0)]) (M' := []) rfl rfl rfl rfl rfl ?_
  exact k
theorem b165_2 {xs : Nat → Int32} {xl : Nat} {I J : w_I} {b : Bool} {Q : Option Value → w_I → w_I → Bool → Prop} {l1 l2 : Int} (k : ((-2147483648 ≤ l2 ∧ l2 < 2147483648) ∧ ((4 ≤ l2 → Q none I J b) ∧ (¬ 4 ≤ l2 → ((0 ≤ I 104 0 ∧ I 104 0 < 2000) ∧ w_T xs xl 165 2 [some (.ref 104), some (w_i l1), some (w_i (l2 + 1))] [] [] (w_U (w_U I 105 (I 104 0) (w_and (w_shr l1 (24 - 8 * l2)) 255)) 104 0 (I 104 0 + 1)) J b Q))))) : w_T xs xl 165 2 [some (.ref 104), some (w_i l1), some (w_i l2)] [] [] I J b Q := by
  refine w_iload_n (q := 3) rfl rfl rfl ?_
  refine w_iconst (q := 4) rfl rfl ?_
  obtain ⟨h1, k⟩ := k
  refine w_cge (t := 45) (q := 7) rfl rfl rfl h1 (by decide) (fun c2 => ?_) (fun c2 => ?_)
  · replace k := k.1 c2
    exact w_vret rfl k
  · replace k := k.2 c2
    refine w_aload_n (q := 8) rfl rfl rfl ?_
    refine w_gfr (q := 11) rfl rfl rfl rfl (j := 105) rfl ?_
    refine w_aload_n (q := 12) rfl rfl rfl ?_
    refine w_gfi (q := 15) (k' := 0) (v := I 104 0) rfl rfl rfl rfl rfl rfl rfl ?_
    refine w_iload_n (q := 16) rfl rfl rfl ?_
    refine w_bipush (q := 18) rfl rfl rfl ?_
    refine w_bipush (q := 20) rfl rfl rfl ?_
    refine w_iload_n (q := 21) rfl rfl rfl ?_
    refine w_imul (q := 22) rfl rfl ?_
    refine w_isub (q := 23) rfl rfl ?_
    refine w_ishr (q := 24) rfl rfl ?_
    refine w_sipush (q := 27) rfl rfl rfl ?_
    refine w_iand (q := 28) rfl rfl ?_
    obtain ⟨h3, k⟩ := k
    refine w_iast (q := 29) (n := 2000) rfl rfl rfl rfl rfl h3 ?_
    refine w_aload_n (q := 30) rfl rfl rfl ?_
    refine w_dup (q := 31) rfl rfl rfl ?_
    refine w_gfi (q := 34) (k' := 0) (v := I 104 0) rfl rfl rfl rfl rfl rfl rfl ?_
    refine w_iconst (q := 35) rfl rfl ?_
    refine w_iadd (q := 36) rfl rfl ?_
    refine w_pfi (q := 39) (k' := 0) rfl rfl rfl rfl ?_
    refine w_iinc (q := 42) (L' := [some (.ref 104), some (w_i l1), some (w_i (l2 + 1))]) (M' := []) rfl rfl rfl rfl rfl rfl ?_
    refine w_goto (t := 2) rfl rfl ?_
    exact k
theorem e166 {xs : Nat → Int32} {xl : Nat} {I J : w_I} {b : Bool} {Q : Option Value → w_I → w_I → Bool → Prop} {a1 : Int} (t : w_T xs xl 166 0 [some (.ref 104), some (w_i a1)] [] [] I J b Q) : w_C xs xl 166 [.ref 104, w_i a1] I J b Q := w_en rfl t
theorem b166_0 {xs : Nat → Int32} {xl : Nat} {I J : w_I} {b : Bool} {Q : Option Value → w_I → w_I → Bool → Prop} {a1 : Int} (k : ((-2147483648 ≤ a1 ∧ a1 < 2147483648) ∧ ((a1 < 0 → Q (some (w_i (-1))) I J b) ∧ (¬ a1 < 0 → ((-2147483648 ≤ I 104 0 ∧ I 104 0 < 2147483648) ∧ ((a1 ≤ I 104 0 → Q (some (w_i (I 104 0 - a1))) (w_U I 104 0 (I 104 0 - a1)) J b) ∧ (¬ a1 ≤ I 104 0 → Q (some (w_i (-1))) I J b))))))) : w_T xs xl 166 0 [some (.ref 104), some (w_i a1)] [] [] I J b Q := by
  refine w_iload_n (q := 1) rfl rfl rfl ?_
  obtain ⟨h1, k⟩ := k
  refine w_zlt (t := 12) (q := 4) rfl rfl rfl h1 (fun c2 => ?_) (fun c2 => ?_)
  · replace k := k.1 c2
    refine w_iconst (q := 13) rfl rfl ?_
    exact w_iret rfl rfl k
  · replace k := k.2 c2
    refine w_iload_n (q := 5) rfl rfl rfl ?_
    refine w_aload_n (q := 6) rfl rfl rfl ?_
    refine w_gfi (q := 9) (k' := 0) (v := I 104 0) rfl rfl rfl rfl rfl rfl rfl ?_
    obtain ⟨h3, k⟩ := k
    refine w_cle (t := 14) (q := 12) rfl rfl rfl h1 h3 (fun c4 => ?_) (fun c4 => ?_)
    · replace k := k.1 c4
      refine w_aload_n (q := 15) rfl rfl rfl ?_
      refine w_aload_n (q := 16) rfl rfl rfl ?_
      refine w_gfi (q := 19) (k' := 0) (v := I 104 0) rfl rfl rfl rfl rfl rfl rfl ?_
      refine w_iload_n (q := 20) rfl rfl rfl ?_
      refine w_isub (q := 21) rfl rfl ?_
      refine w_pfi (q := 24) (k' := 0) rfl rfl rfl rfl ?_
      refine w_aload_n (q := 25) rfl rfl rfl ?_
      refine w_gfi (q := 28) (k' := 0) (v := I 104 0 - a1) rfl rfl rfl rfl rfl rfl rfl ?_
      exact w_iret rfl rfl k
    · replace k := k.2 c4
      refine w_iconst (q := 13) rfl rfl ?_
      exact w_iret rfl rfl k
theorem e167 {xs : Nat → Int32} {xl : Nat} {I J : w_I} {b : Bool} {Q : Option Value → w_I → w_I → Bool → Prop} {a1 : Int} (t : w_T xs xl 167 0 [some (.ref 104), some (w_i a1)] [] [] I J b Q) : w_C xs xl 167 [.ref 104, w_i a1] I J b Q := w_en rfl t
theorem b167_0 {xs : Nat → Int32} {xl : Nat} {I J : w_I} {b : Bool} {Q : Option Value → w_I → w_I → Bool → Prop} {a1 : Int} (k : ((-2147483648 ≤ a1 ∧ a1 < 2147483648) ∧ (-2147483648 ≤ I 104 0 ∧ I 104 0 < 2147483648) ∧ ((I 104 0 ≤ a1 → Q (some (w_i 0)) I J b) ∧ (¬ I 104 0 ≤ a1 → ((0 ≤ a1 ∧ a1 < 2000) ∧ Q (some (w_i (I 105 a1))) I J b))))) : w_T xs xl 167 0 [some (.ref 104), some (w_i a1)] [] [] I J b Q := by
  refine w_iload_n (q := 1) rfl rfl rfl ?_
  refine w_aload_n (q := 2) rfl rfl rfl ?_
  refine w_gfi (q := 5) (k' := 0) (v := I 104 0) rfl rfl rfl rfl rfl rfl rfl ?_
  obtain ⟨h1, h2, k⟩ := k
  refine w_cge (t := 17) (q := 8) rfl rfl rfl h1 h2 (fun c3 => ?_) (fun c3 => ?_)
  · replace k := k.1 c3
    refine w_iconst (q := 18) rfl rfl ?_
    exact w_iret rfl rfl k
  · replace k := k.2 c3
    refine w_aload_n (q := 9) rfl rfl rfl ?_
    refine w_gfr (q := 12) rfl rfl rfl rfl (j := 105) rfl ?_
    refine w_iload_n (q := 13) rfl rfl rfl ?_
    obtain ⟨h4, k⟩ := k
    refine w_iald (q := 14) (n := 2000) (v := I 105 a1) rfl rfl rfl rfl rfl rfl h4 ?_
    refine w_goto (t := 18) rfl rfl ?_
    exact w_iret rfl rfl k
theorem e168 {xs : Nat → Int32} {xl : Nat} {I J : w_I} {b : Bool} {Q : Option Value → w_I → w_I → Bool → Prop} {a1 : Int} (t : w_T xs xl 168 0 [some (.ref 104), some (w_i a1)] [] [] I J b Q) : w_C xs xl 168 [.ref 104, w_i a1] I J b Q := w_en rfl t
theorem b168_0 {xs : Nat → Int32} {xl : Nat} {I J : w_I} {b : Bool} {Q : Option Value → w_I → w_I → Bool → Prop} {a1 : Int} (k : w_C xs xl 167 [.ref 104, w_i a1] I J b (fun v Ic Jc bc => w_T xs xl 168 5 [some (.ref 104), some (w_i a1)] [] (w_pv v []) Ic Jc bc Q)) : w_T xs xl 168 0 [some (.ref 104), some (w_i a1)] [] [] I J b Q := by
  refine w_aload_n (q := 1) rfl rfl rfl ?_
  refine w_iload_n (q := 2) rfl rfl rfl ?_
  refine w_callv (q := 5) rfl rfl rfl rfl rfl rfl ?_
  exact k
theorem b168_5 {xs : Nat → Int32} {xl : Nat} {I J : w_I} {b : Bool} {Q : Option Value → w_I → w_I → Bool → Prop} {l1 s0 : Int} (k : ((-2147483648 ≤ s0 ∧ s0 < 2147483648) ∧ ((s0 < 97 → Q (some (w_i 0)) I J b) ∧ (¬ s0 < 97 → w_C xs xl 167 [.ref 104, w_i l1] I J b (fun v Ic Jc bc => w_T xs xl 168 15 [some (.ref 104), some (w_i l1)] [] (w_pv v []) Ic Jc bc Q))))) : w_T xs xl 168 5 [some (.ref 104), some (w_i l1)] [] [w_i s0] I J b Q := by
  refine w_bipush (q := 7) rfl rfl rfl ?_
  obtain ⟨h1, k⟩ := k
  refine w_clt (t := 24) (q := 10) rfl rfl rfl h1 (by decide) (fun c2 => ?_) (fun c2 => ?_)
  · replace k := k.1 c2
    refine w_iconst (q := 25) rfl rfl ?_
    refine w_iret rfl rfl k
  · replace k := k.2 c2
    refine w_aload_n (q := 11) rfl rfl rfl ?_
    refine w_iload_n (q := 12) rfl rfl rfl ?_
    refine w_callv (q := 15) rfl rfl rfl rfl rfl rfl ?_
    exact k
theorem b168_15 {xs : Nat → Int32} {xl : Nat} {I J : w_I} {b : Bool} {Q : Option Value → w_I → w_I → Bool → Prop} {u1 : Option Value} {s0 : Int} (k : ((-2147483648 ≤ s0 ∧ s0 < 2147483648) ∧ ((122 < s0 → Q (some (w_i 0)) I J b) ∧ (¬ 122 < s0 → Q (some (w_i 1)) I J b)))) : w_T xs xl 168 15 [some (.ref 104), u1] [] [w_i s0] I J b Q := by
  refine w_bipush (q := 17) rfl rfl rfl ?_
  obtain ⟨h1, k⟩ := k
  refine w_cgt (t := 24) (q := 20) rfl rfl rfl h1 (by decide) (fun c2 => ?_) (fun c2 => ?_)
  · replace k := k.1 c2
    refine w_iconst (q := 25) rfl rfl ?_
    refine w_iret rfl rfl k
  · replace k := k.2 c2
    refine w_iconst (q := 21) rfl rfl ?_
    refine w_goto (t := 25) rfl rfl ?_
    refine w_iret rfl rfl k
theorem e169 {xs : Nat → Int32} {xl : Nat} {I J : w_I} {b : Bool} {Q : Option Value → w_I → w_I → Bool → Prop} {a1 : Int} (t : w_T xs xl 169 0 [some (.ref 104), some (w_i a1)] [] [] I J b Q) : w_C xs xl 169 [.ref 104, w_i a1] I J b Q := w_en rfl t
theorem b169_0 {xs : Nat → Int32} {xl : Nat} {I J : w_I} {b : Bool} {Q : Option Value → w_I → w_I → Bool → Prop} {a1 : Int} (k : w_C xs xl 167 [.ref 104, w_i a1] I J b (fun v Ic Jc bc => w_T xs xl 169 5 [some (.ref 104), some (w_i a1)] [] (w_pv v []) Ic Jc bc Q)) : w_T xs xl 169 0 [some (.ref 104), some (w_i a1)] [] [] I J b Q := by
  refine w_aload_n (q := 1) rfl rfl rfl ?_
  refine w_iload_n (q := 2) rfl rfl rfl ?_
  refine w_callv (q := 5) rfl rfl rfl rfl rfl rfl ?_
  exact k
theorem b169_5 {xs : Nat → Int32} {xl : Nat} {I J : w_I} {b : Bool} {Q : Option Value → w_I → w_I → Bool → Prop} {l1 s0 : Int} (k : ((-2147483648 ≤ s0 ∧ s0 < 2147483648) ∧ ((s0 < 48 → Q (some (w_i 0)) I J b) ∧ (¬ s0 < 48 → w_C xs xl 167 [.ref 104, w_i l1] I J b (fun v Ic Jc bc => w_T xs xl 169 15 [some (.ref 104), some (w_i l1)] [] (w_pv v []) Ic Jc bc Q))))) : w_T xs xl 169 5 [some (.ref 104), some (w_i l1)] [] [w_i s0] I J b Q := by
  refine w_bipush (q := 7) rfl rfl rfl ?_
  obtain ⟨h1, k⟩ := k
  refine w_clt (t := 24) (q := 10) rfl rfl rfl h1 (by decide) (fun c2 => ?_) (fun c2 => ?_)
  · replace k := k.1 c2
    refine w_iconst (q := 25) rfl rfl ?_
    refine w_iret rfl rfl k
  · replace k := k.2 c2
    refine w_aload_n (q := 11) rfl rfl rfl ?_
    refine w_iload_n (q := 12) rfl rfl rfl ?_
    refine w_callv (q := 15) rfl rfl rfl rfl rfl rfl ?_
    exact k
theorem b169_15 {xs : Nat → Int32} {xl : Nat} {I J : w_I} {b : Bool} {Q : Option Value → w_I → w_I → Bool → Prop} {u1 : Option Value} {s0 : Int} (k : ((-2147483648 ≤ s0 ∧ s0 < 2147483648) ∧ ((57 < s0 → Q (some (w_i 0)) I J b) ∧ (¬ 57 < s0 → Q (some (w_i 1)) I J b)))) : w_T xs xl 169 15 [some (.ref 104), u1] [] [w_i s0] I J b Q := by
  refine w_bipush (q := 17) rfl rfl rfl ?_
  obtain ⟨h1, k⟩ := k
  refine w_cgt (t := 24) (q := 20) rfl rfl rfl h1 (by decide) (fun c2 => ?_) (fun c2 => ?_)
  · replace k := k.1 c2
    refine w_iconst (q := 25) rfl rfl ?_
    refine w_iret rfl rfl k
  · replace k := k.2 c2
    refine w_iconst (q := 21) rfl rfl ?_
    refine w_goto (t := 25) rfl rfl ?_
    refine w_iret rfl rfl k
theorem e170 {xs : Nat → Int32} {xl : Nat} {I J : w_I} {b : Bool} {Q : Option Value → w_I → w_I → Bool → Prop} {a1 a2 a3 : Int} (t : w_T xs xl 170 0 [some (.ref 104), some (w_i a1), some (w_i a2), some (w_i a3)] [] [] I J b Q) : w_C xs xl 170 [.ref 104, w_i a1, w_i a2, w_i a3] I J b Q := w_en rfl t
theorem b170_0 {xs : Nat → Int32} {xl : Nat} {I J : w_I} {b : Bool} {Q : Option Value → w_I → w_I → Bool → Prop} {a1 a2 a3 : Int} (k : ((0 ≤ I 104 2 ∧ I 104 2 < 2001) ∧ Q none (w_U (w_U (w_U (w_U I 106 (I 104 2) a1) 107 (I 104 2) a2) 108 (I 104 2) a3) 104 2 (I 104 2 + 1)) J b)) : w_T xs xl 170 0 [some (.ref 104), some (w_i a1), some (w_i a2), some (w_i a3)] [] [] I J b Q := by
  refine w_aload_n (q := 1) rfl rfl rfl ?_
  refine w_gfr (q := 4) rfl rfl rfl rfl (j := 106) rfl ?_
  refine w_aload_n (q := 5) rfl rfl rfl ?_
  refine w_gfi (q := 8) (k' := 2) (v := I 104 2) rfl rfl rfl rfl rfl rfl rfl ?_
  refine w_iload_n (q := 9) rfl rfl rfl ?_
  obtain ⟨h1, k⟩ := k
  refine w_iast (q := 10) (n := 2001) rfl rfl rfl rfl rfl h1 ?_
  refine w_aload_n (q := 11) rfl rfl rfl ?_
  refine w_gfr (q := 14) rfl rfl rfl rfl (j := 107) rfl ?_
  refine w_aload_n (q := 15) rfl rfl rfl ?_
  refine w_gfi (q := 18) (k' := 2) (v := I 104 2) rfl rfl rfl rfl rfl rfl rfl ?_
  refine w_iload_n (q := 19) rfl rfl rfl ?_
  refine w_iast (q := 20) (n := 2001) rfl rfl rfl rfl rfl h1 ?_
  refine w_aload_n (q := 21) rfl rfl rfl ?_
  refine w_gfr (q := 24) rfl rfl rfl rfl (j := 108) rfl ?_
  refine w_aload_n (q := 25) rfl rfl rfl ?_
  refine w_gfi (q := 28) (k' := 2) (v := I 104 2) rfl rfl rfl rfl rfl rfl rfl ?_
  refine w_iload_n (q := 29) rfl rfl rfl ?_
  refine w_iast (q := 30) (n := 2001) rfl rfl rfl rfl rfl h1 ?_
  refine w_aload_n (q := 31) rfl rfl rfl ?_
  refine w_dup (q := 32) rfl rfl rfl ?_
  refine w_gfi (q := 35) (k' := 2) (v := I 104 2) rfl rfl rfl rfl rfl rfl rfl ?_
  refine w_iconst (q := 36) rfl rfl ?_
  refine w_iadd (q := 37) rfl rfl ?_
  refine w_pfi (q := 40) (k' := 2) rfl rfl rfl rfl ?_
  exact w_vret rfl k
theorem e171 {xs : Nat → Int32} {xl : Nat} {I J : w_I} {b : Bool} {Q : Option Value → w_I → w_I → Bool → Prop} {a0 : Int} (t : w_T xs xl 171 0 [none, none] [some (Int64.ofInt a0), none] [] I J b Q) : w_C xs xl 171 [w_l a0] I J b Q := w_en rfl t
theorem b171_0 {xs : Nat → Int32} {xl : Nat} {I J : w_I} {b : Bool} {Q : Option Value → w_I → w_I → Bool → Prop} {a0 : Int} (k : ((-9223372036854775808 ≤ a0 ∧ a0 < 9223372036854775808) ∧ ((¬ a0 = 4562600 → ((¬ a0 = 240023 → ((¬ a0 = 9748424 → ((¬ a0 = 388708 → ((¬ a0 = 237308 → ((¬ a0 = 79 → ((¬ a0 = 78204737 → ((¬ a0 = 259565 → ((¬ a0 = 249 → ((¬ a0 = 70517 → ((¬ a0 = 10631 → ((¬ a0 = 1111 → ((¬ a0 = 423 → ((¬ a0 = 923 → ((¬ a0 = 381245 → ((¬ a0 = 237281 → ((¬ a0 = 7214732 → ((¬ a0 = 131638 → ((¬ a0 = 555 → ((¬ a0 = 4419 → ((¬ a0 = 5146 → ((¬ a0 = 6688714 → ((¬ a0 = 149125 → ((¬ a0 = 12532058 → ((¬ a0 = 1899199 → ((¬ a0 = 85447 → ((¬ a0 = 2549467418 → Q (some (w_i (-1))) I J b) ∧ (a0 = 2549467418 → Q (some (w_i 33)) I J b))) ∧ (a0 = 85447 → Q (some (w_i 32)) I J b))) ∧ (a0 = 1899199 → Q (some (w_i 31)) I J b))) ∧ (a0 = 12532058 → Q (some (w_i 30)) I J b))) ∧ (a0 = 149125 → Q (some (w_i 22)) I J b))) ∧ (a0 = 6688714 → Q (some (w_i 21)) I J b))) ∧ (a0 = 5146 → Q (some (w_i 20)) I J b))) ∧ (a0 = 4419 → Q (some (w_i 19)) I J b))) ∧ (a0 = 555 → Q (some (w_i 18)) I J b))) ∧ (a0 = 131638 → Q (some (w_i 17)) I J b))) ∧ (a0 = 7214732 → Q (some (w_i 16)) I J b))) ∧ (a0 = 237281 → Q (some (w_i 15)) I J b))) ∧ (a0 = 381245 → Q (some (w_i 14)) I J b))) ∧ (a0 = 923 → Q (some (w_i 13)) I J b))) ∧ (a0 = 423 → Q (some (w_i 12)) I J b))) ∧ (a0 = 1111 → Q (some (w_i 11)) I J b))) ∧ (a0 = 10631 → Q (some (w_i 10)) I J b))) ∧ (a0 = 70517 → Q (some (w_i 9)) I J b))) ∧ (a0 = 249 → Q (some (w_i 8)) I J b))) ∧ (a0 = 259565 → Q (some (w_i 7)) I J b))) ∧ (a0 = 78204737 → Q (some (w_i 6)) I J b))) ∧ (a0 = 79 → Q (some (w_i 5)) I J b))) ∧ (a0 = 237308 → Q (some (w_i 4)) I J b))) ∧ (a0 = 388708 → Q (some (w_i 3)) I J b))) ∧ (a0 = 9748424 → Q (some (w_i 2)) I J b))) ∧ (a0 = 240023 → Q (some (w_i 1)) I J b))) ∧ (a0 = 4562600 → Q (some (w_i 0)) I J b)))) : w_T xs xl 171 0 [none, none] [some (Int64.ofInt a0), none] [] I J b Q := by
  refine w_lload_n (q := 1) rfl rfl rfl ?_
  refine w_ldc2 (q := 4) (n := 4562600) rfl rfl rfl ?_
  obtain ⟨h1, k⟩ := k
  refine w_lcmp (q := 5) rfl rfl h1 (by decide) ?_
  refine w_zne (t := 10) (q := 8) rfl rfl rfl (w_cmp_in _ _) (fun c1 => ?_) (fun c1 => ?_)
  · replace k := k.1 (w_cmp_ne c1)
    refine w_lload_n (q := 11) rfl rfl rfl ?_
    refine w_ldc2 (q := 14) (n := 240023) rfl rfl rfl ?_
    refine w_lcmp (q := 15) rfl rfl h1 (by decide) ?_
    refine w_zne (t := 20) (q := 18) rfl rfl rfl (w_cmp_in _ _) (fun c1 => ?_) (fun c1 => ?_)
    · replace k := k.1 (w_cmp_ne c1)
      refine w_lload_n (q := 21) rfl rfl rfl ?_
      refine w_ldc2 (q := 24) (n := 9748424) rfl rfl rfl ?_
      refine w_lcmp (q := 25) rfl rfl h1 (by decide) ?_
      refine w_zne (t := 30) (q := 28) rfl rfl rfl (w_cmp_in _ _) (fun c1 => ?_) (fun c1 => ?_)
      · replace k := k.1 (w_cmp_ne c1)
        refine w_lload_n (q := 31) rfl rfl rfl ?_
        refine w_ldc2 (q := 34) (n := 388708) rfl rfl rfl ?_
        refine w_lcmp (q := 35) rfl rfl h1 (by decide) ?_
        refine w_zne (t := 40) (q := 38) rfl rfl rfl (w_cmp_in _ _) (fun c1 => ?_) (fun c1 => ?_)
        · replace k := k.1 (w_cmp_ne c1)
          refine w_lload_n (q := 41) rfl rfl rfl ?_
          refine w_ldc2 (q := 44) (n := 237308) rfl rfl rfl ?_
          refine w_lcmp (q := 45) rfl rfl h1 (by decide) ?_
          refine w_zne (t := 50) (q := 48) rfl rfl rfl (w_cmp_in _ _) (fun c1 => ?_) (fun c1 => ?_)
          · replace k := k.1 (w_cmp_ne c1)
            refine w_lload_n (q := 51) rfl rfl rfl ?_
            refine w_ldc2 (q := 54) (n := 79) rfl rfl rfl ?_
            refine w_lcmp (q := 55) rfl rfl h1 (by decide) ?_
            refine w_zne (t := 60) (q := 58) rfl rfl rfl (w_cmp_in _ _) (fun c1 => ?_) (fun c1 => ?_)
            · replace k := k.1 (w_cmp_ne c1)
              refine w_lload_n (q := 61) rfl rfl rfl ?_
              refine w_ldc2 (q := 64) (n := 78204737) rfl rfl rfl ?_
              refine w_lcmp (q := 65) rfl rfl h1 (by decide) ?_
              refine w_zne (t := 71) (q := 68) rfl rfl rfl (w_cmp_in _ _) (fun c1 => ?_) (fun c1 => ?_)
              · replace k := k.1 (w_cmp_ne c1)
                refine w_lload_n (q := 72) rfl rfl rfl ?_
                refine w_ldc2 (q := 75) (n := 259565) rfl rfl rfl ?_
                refine w_lcmp (q := 76) rfl rfl h1 (by decide) ?_
                refine w_zne (t := 82) (q := 79) rfl rfl rfl (w_cmp_in _ _) (fun c1 => ?_) (fun c1 => ?_)
                · replace k := k.1 (w_cmp_ne c1)
                  refine w_lload_n (q := 83) rfl rfl rfl ?_
                  refine w_ldc2 (q := 86) (n := 249) rfl rfl rfl ?_
                  refine w_lcmp (q := 87) rfl rfl h1 (by decide) ?_
                  refine w_zne (t := 93) (q := 90) rfl rfl rfl (w_cmp_in _ _) (fun c1 => ?_) (fun c1 => ?_)
                  · replace k := k.1 (w_cmp_ne c1)
                    refine w_lload_n (q := 94) rfl rfl rfl ?_
                    refine w_ldc2 (q := 97) (n := 70517) rfl rfl rfl ?_
                    refine w_lcmp (q := 98) rfl rfl h1 (by decide) ?_
                    refine w_zne (t := 104) (q := 101) rfl rfl rfl (w_cmp_in _ _) (fun c1 => ?_) (fun c1 => ?_)
                    · replace k := k.1 (w_cmp_ne c1)
                      refine w_lload_n (q := 105) rfl rfl rfl ?_
                      refine w_ldc2 (q := 108) (n := 10631) rfl rfl rfl ?_
                      refine w_lcmp (q := 109) rfl rfl h1 (by decide) ?_
                      refine w_zne (t := 115) (q := 112) rfl rfl rfl (w_cmp_in _ _) (fun c1 => ?_) (fun c1 => ?_)
                      · replace k := k.1 (w_cmp_ne c1)
                        refine w_lload_n (q := 116) rfl rfl rfl ?_
                        refine w_ldc2 (q := 119) (n := 1111) rfl rfl rfl ?_
                        refine w_lcmp (q := 120) rfl rfl h1 (by decide) ?_
                        refine w_zne (t := 126) (q := 123) rfl rfl rfl (w_cmp_in _ _) (fun c1 => ?_) (fun c1 => ?_)
                        · replace k := k.1 (w_cmp_ne c1)
                          refine w_lload_n (q := 127) rfl rfl rfl ?_
                          refine w_ldc2 (q := 130) (n := 423) rfl rfl rfl ?_
                          refine w_lcmp (q := 131) rfl rfl h1 (by decide) ?_
                          refine w_zne (t := 137) (q := 134) rfl rfl rfl (w_cmp_in _ _) (fun c1 => ?_) (fun c1 => ?_)
                          · replace k := k.1 (w_cmp_ne c1)
                            refine w_lload_n (q := 138) rfl rfl rfl ?_
                            refine w_ldc2 (q := 141) (n := 923) rfl rfl rfl ?_
                            refine w_lcmp (q := 142) rfl rfl h1 (by decide) ?_
                            refine w_zne (t := 148) (q := 145) rfl rfl rfl (w_cmp_in _ _) (fun c1 => ?_) (fun c1 => ?_)
                            · replace k := k.1 (w_cmp_ne c1)
                              refine w_lload_n (q := 149) rfl rfl rfl ?_
                              refine w_ldc2 (q := 152) (n := 381245) rfl rfl rfl ?_
                              refine w_lcmp (q := 153) rfl rfl h1 (by decide) ?_
                              refine w_zne (t := 159) (q := 156) rfl rfl rfl (w_cmp_in _ _) (fun c1 => ?_) (fun c1 => ?_)
                              · replace k := k.1 (w_cmp_ne c1)
                                refine w_lload_n (q := 160) rfl rfl rfl ?_
                                refine w_ldc2 (q := 163) (n := 237281) rfl rfl rfl ?_
                                refine w_lcmp (q := 164) rfl rfl h1 (by decide) ?_
                                refine w_zne (t := 170) (q := 167) rfl rfl rfl (w_cmp_in _ _) (fun c1 => ?_) (fun c1 => ?_)
                                · replace k := k.1 (w_cmp_ne c1)
                                  refine w_lload_n (q := 171) rfl rfl rfl ?_
                                  refine w_ldc2 (q := 174) (n := 7214732) rfl rfl rfl ?_
                                  refine w_lcmp (q := 175) rfl rfl h1 (by decide) ?_
                                  refine w_zne (t := 181) (q := 178) rfl rfl rfl (w_cmp_in _ _) (fun c1 => ?_) (fun c1 => ?_)
                                  · replace k := k.1 (w_cmp_ne c1)
                                    refine w_lload_n (q := 182) rfl rfl rfl ?_
                                    refine w_ldc2 (q := 185) (n := 131638) rfl rfl rfl ?_
                                    refine w_lcmp (q := 186) rfl rfl h1 (by decide) ?_
                                    refine w_zne (t := 192) (q := 189) rfl rfl rfl (w_cmp_in _ _) (fun c1 => ?_) (fun c1 => ?_)
                                    · replace k := k.1 (w_cmp_ne c1)
                                      refine w_lload_n (q := 193) rfl rfl rfl ?_
                                      refine w_ldc2 (q := 196) (n := 555) rfl rfl rfl ?_
                                      refine w_lcmp (q := 197) rfl rfl h1 (by decide) ?_
                                      refine w_zne (t := 203) (q := 200) rfl rfl rfl (w_cmp_in _ _) (fun c1 => ?_) (fun c1 => ?_)
                                      · replace k := k.1 (w_cmp_ne c1)
                                        refine w_lload_n (q := 204) rfl rfl rfl ?_
                                        refine w_ldc2 (q := 207) (n := 4419) rfl rfl rfl ?_
                                        refine w_lcmp (q := 208) rfl rfl h1 (by decide) ?_
                                        refine w_zne (t := 214) (q := 211) rfl rfl rfl (w_cmp_in _ _) (fun c1 => ?_) (fun c1 => ?_)
                                        · replace k := k.1 (w_cmp_ne c1)
                                          refine w_lload_n (q := 215) rfl rfl rfl ?_
                                          refine w_ldc2 (q := 218) (n := 5146) rfl rfl rfl ?_
                                          refine w_lcmp (q := 219) rfl rfl h1 (by decide) ?_
                                          refine w_zne (t := 225) (q := 222) rfl rfl rfl (w_cmp_in _ _) (fun c1 => ?_) (fun c1 => ?_)
                                          · replace k := k.1 (w_cmp_ne c1)
                                            refine w_lload_n (q := 226) rfl rfl rfl ?_
                                            refine w_ldc2 (q := 229) (n := 6688714) rfl rfl rfl ?_
                                            refine w_lcmp (q := 230) rfl rfl h1 (by decide) ?_
                                            refine w_zne (t := 236) (q := 233) rfl rfl rfl (w_cmp_in _ _) (fun c1 => ?_) (fun c1 => ?_)
                                            · replace k := k.1 (w_cmp_ne c1)
                                              refine w_lload_n (q := 237) rfl rfl rfl ?_
                                              refine w_ldc2 (q := 240) (n := 149125) rfl rfl rfl ?_
                                              refine w_lcmp (q := 241) rfl rfl h1 (by decide) ?_
                                              refine w_zne (t := 247) (q := 244) rfl rfl rfl (w_cmp_in _ _) (fun c1 => ?_) (fun c1 => ?_)
                                              · replace k := k.1 (w_cmp_ne c1)
                                                refine w_lload_n (q := 248) rfl rfl rfl ?_
                                                refine w_ldc2 (q := 251) (n := 12532058) rfl rfl rfl ?_
                                                refine w_lcmp (q := 252) rfl rfl h1 (by decide) ?_
                                                refine w_zne (t := 258) (q := 255) rfl rfl rfl (w_cmp_in _ _) (fun c1 => ?_) (fun c1 => ?_)
                                                · replace k := k.1 (w_cmp_ne c1)
                                                  refine w_lload_n (q := 259) rfl rfl rfl ?_
                                                  refine w_ldc2 (q := 262) (n := 1899199) rfl rfl rfl ?_
                                                  refine w_lcmp (q := 263) rfl rfl h1 (by decide) ?_
                                                  refine w_zne (t := 269) (q := 266) rfl rfl rfl (w_cmp_in _ _) (fun c1 => ?_) (fun c1 => ?_)
                                                  · replace k := k.1 (w_cmp_ne c1)
                                                    refine w_lload_n (q := 270) rfl rfl rfl ?_
                                                    refine w_ldc2 (q := 273) (n := 85447) rfl rfl rfl ?_
                                                    refine w_lcmp (q := 274) rfl rfl h1 (by decide) ?_
                                                    refine w_zne (t := 280) (q := 277) rfl rfl rfl (w_cmp_in _ _) (fun c1 => ?_) (fun c1 => ?_)
                                                    · replace k := k.1 (w_cmp_ne c1)
                                                      refine w_lload_n (q := 281) rfl rfl rfl ?_
                                                      refine w_ldc2 (q := 284) (n := 2549467418) rfl rfl rfl ?_
                                                      refine w_lcmp (q := 285) rfl rfl h1 (by decide) ?_
                                                      refine w_zne (t := 291) (q := 288) rfl rfl rfl (w_cmp_in _ _) (fun c1 => ?_) (fun c1 => ?_)
                                                      · replace k := k.1 (w_cmp_ne c1)
                                                        refine w_iconst (q := 292) rfl rfl ?_
                                                        exact w_iret rfl rfl k
                                                      · replace k := k.2 (w_cmp_eq c1)
                                                        refine w_bipush (q := 290) rfl rfl rfl ?_
                                                        exact w_iret rfl rfl k
                                                    · replace k := k.2 (w_cmp_eq c1)
                                                      refine w_bipush (q := 279) rfl rfl rfl ?_
                                                      exact w_iret rfl rfl k
                                                  · replace k := k.2 (w_cmp_eq c1)
                                                    refine w_bipush (q := 268) rfl rfl rfl ?_
                                                    exact w_iret rfl rfl k
                                                · replace k := k.2 (w_cmp_eq c1)
                                                  refine w_bipush (q := 257) rfl rfl rfl ?_
                                                  exact w_iret rfl rfl k
                                              · replace k := k.2 (w_cmp_eq c1)
                                                refine w_bipush (q := 246) rfl rfl rfl ?_
                                                exact w_iret rfl rfl k
                                            · replace k := k.2 (w_cmp_eq c1)
                                              refine w_bipush (q := 235) rfl rfl rfl ?_
                                              exact w_iret rfl rfl k
                                          · replace k := k.2 (w_cmp_eq c1)
                                            refine w_bipush (q := 224) rfl rfl rfl ?_
                                            exact w_iret rfl rfl k
                                        · replace k := k.2 (w_cmp_eq c1)
                                          refine w_bipush (q := 213) rfl rfl rfl ?_
                                          exact w_iret rfl rfl k
                                      · replace k := k.2 (w_cmp_eq c1)
                                        refine w_bipush (q := 202) rfl rfl rfl ?_
                                        exact w_iret rfl rfl k
                                    · replace k := k.2 (w_cmp_eq c1)
                                      refine w_bipush (q := 191) rfl rfl rfl ?_
                                      exact w_iret rfl rfl k
                                  · replace k := k.2 (w_cmp_eq c1)
                                    refine w_bipush (q := 180) rfl rfl rfl ?_
                                    exact w_iret rfl rfl k
                                · replace k := k.2 (w_cmp_eq c1)
                                  refine w_bipush (q := 169) rfl rfl rfl ?_
                                  exact w_iret rfl rfl k
                              · replace k := k.2 (w_cmp_eq c1)
                                refine w_bipush (q := 158) rfl rfl rfl ?_
                                exact w_iret rfl rfl k
                            · replace k := k.2 (w_cmp_eq c1)
                              refine w_bipush (q := 147) rfl rfl rfl ?_
                              exact w_iret rfl rfl k
                          · replace k := k.2 (w_cmp_eq c1)
                            refine w_bipush (q := 136) rfl rfl rfl ?_
                            exact w_iret rfl rfl k
                        · replace k := k.2 (w_cmp_eq c1)
                          refine w_bipush (q := 125) rfl rfl rfl ?_
                          exact w_iret rfl rfl k
                      · replace k := k.2 (w_cmp_eq c1)
                        refine w_bipush (q := 114) rfl rfl rfl ?_
                        exact w_iret rfl rfl k
                    · replace k := k.2 (w_cmp_eq c1)
                      refine w_bipush (q := 103) rfl rfl rfl ?_
                      exact w_iret rfl rfl k
                  · replace k := k.2 (w_cmp_eq c1)
                    refine w_bipush (q := 92) rfl rfl rfl ?_
                    exact w_iret rfl rfl k
                · replace k := k.2 (w_cmp_eq c1)
                  refine w_bipush (q := 81) rfl rfl rfl ?_
                  exact w_iret rfl rfl k
              · replace k := k.2 (w_cmp_eq c1)
                refine w_bipush (q := 70) rfl rfl rfl ?_
                exact w_iret rfl rfl k
            · replace k := k.2 (w_cmp_eq c1)
              refine w_iconst (q := 59) rfl rfl ?_
              exact w_iret rfl rfl k
          · replace k := k.2 (w_cmp_eq c1)
            refine w_iconst (q := 49) rfl rfl ?_
            exact w_iret rfl rfl k
        · replace k := k.2 (w_cmp_eq c1)
          refine w_iconst (q := 39) rfl rfl ?_
          exact w_iret rfl rfl k
      · replace k := k.2 (w_cmp_eq c1)
        refine w_iconst (q := 29) rfl rfl ?_
        exact w_iret rfl rfl k
    · replace k := k.2 (w_cmp_eq c1)
      refine w_iconst (q := 19) rfl rfl ?_
      exact w_iret rfl rfl k
  · replace k := k.2 (w_cmp_eq c1)
    refine w_iconst (q := 9) rfl rfl ?_
    exact w_iret rfl rfl k
theorem e172 {xs : Nat → Int32} {xl : Nat} {I J : w_I} {b : Bool} {Q : Option Value → w_I → w_I → Bool → Prop} {a1 : Int} (t : w_T xs xl 172 0 [some (.ref 104), some (w_i a1), none, none] [] [] I J b Q) : w_C xs xl 172 [.ref 104, w_i a1] I J b Q := w_en rfl t
theorem b172_0 {xs : Nat → Int32} {xl : Nat} {I J : w_I} {b : Bool} {Q : Option Value → w_I → w_I → Bool → Prop} {a1 : Int} (k : w_C xs xl 167 [.ref 104, w_i a1] I J b (fun v Ic Jc bc => w_T xs xl 172 5 [some (.ref 104), some (w_i a1), none, none] [] (w_pv v []) Ic Jc bc Q)) : w_T xs xl 172 0 [some (.ref 104), some (w_i a1), none, none] [] [] I J b Q := by
  refine w_aload_n (q := 1) rfl rfl rfl ?_
  refine w_iload_n (q := 2) rfl rfl rfl ?_
  refine w_callv (q := 5) rfl rfl rfl rfl rfl rfl ?_
  exact k
theorem b172_5 {xs : Nat → Int32} {xl : Nat} {I J : w_I} {b : Bool} {Q : Option Value → w_I → w_I → Bool → Prop} {l1 s0 : Int} {u2 u3 : Option Value} (k : w_C xs xl 167 [.ref 104, w_i (l1 + 1)] I J b (fun v Ic Jc bc => w_T xs xl 172 13 [some (.ref 104), some (w_i l1), some (w_i s0), u3] [] (w_pv v []) Ic Jc bc Q)) : w_T xs xl 172 5 [some (.ref 104), some (w_i l1), u2, u3] [] [w_i s0] I J b Q := by
  refine w_istore_n (q := 6) (L' := [some (.ref 104), some (w_i l1), some (w_i s0), u3]) (M' := []) rfl rfl rfl rfl rfl ?_
  refine w_aload_n (q := 7) rfl rfl rfl ?_
  refine w_iload_n (q := 8) rfl rfl rfl ?_
  refine w_iconst (q := 9) rfl rfl ?_
  refine w_iadd (q := 10) rfl rfl ?_
  refine w_callv (q := 13) rfl rfl rfl rfl rfl rfl ?_
  exact k
theorem b172_13 {xs : Nat → Int32} {xl : Nat} {I J : w_I} {b : Bool} {Q : Option Value → w_I → w_I → Bool → Prop} {u1 u3 : Option Value} {l2 s0 : Int} (k : ((-2147483648 ≤ s0 ∧ s0 < 2147483648) ∧ ((¬ s0 = 61 → ((-2147483648 ≤ l2 ∧ l2 < 2147483648) ∧ ((¬ l2 = 61 → ((¬ l2 = 33 → ((¬ l2 = 60 → ((l2 = 59 → Q (some (w_i l2)) I J b) ∧ (¬ l2 = 59 → ((l2 = 43 → Q (some (w_i l2)) I J b) ∧ (¬ l2 = 43 → ((l2 = 45 → Q (some (w_i l2)) I J b) ∧ (¬ l2 = 45 → ((l2 = 42 → Q (some (w_i l2)) I J b) ∧ (¬ l2 = 42 → ((l2 = 47 → Q (some (w_i l2)) I J b) ∧ (¬ l2 = 47 → ((l2 = 40 → Q (some (w_i l2)) I J b) ∧ (¬ l2 = 40 → ((¬ l2 = 41 → Q (some (w_i 0)) I J b) ∧ (l2 = 41 → Q (some (w_i l2)) I J b))))))))))))))) ∧ (l2 = 60 → Q (some (w_i l2)) I J b))) ∧ (l2 = 33 → Q (some (w_i 0)) I J b))) ∧ (l2 = 61 → Q (some (w_i l2)) I J b)))) ∧ (s0 = 61 → ((-2147483648 ≤ l2 ∧ l2 < 2147483648) ∧ ((¬ l2 = 61 → ((¬ l2 = 33 → ((¬ l2 = 60 → ((l2 = 59 → Q (some (w_i l2)) I J b) ∧ (¬ l2 = 59 → ((l2 = 43 → Q (some (w_i l2)) I J b) ∧ (¬ l2 = 43 → ((l2 = 45 → Q (some (w_i l2)) I J b) ∧ (¬ l2 = 45 → ((l2 = 42 → Q (some (w_i l2)) I J b) ∧ (¬ l2 = 42 → ((l2 = 47 → Q (some (w_i l2)) I J b) ∧ (¬ l2 = 47 → ((l2 = 40 → Q (some (w_i l2)) I J b) ∧ (¬ l2 = 40 → ((¬ l2 = 41 → Q (some (w_i 0)) I J b) ∧ (l2 = 41 → Q (some (w_i l2)) I J b))))))))))))))) ∧ (l2 = 60 → Q (some (w_i 302)) I J b))) ∧ (l2 = 33 → Q (some (w_i 301)) I J b))) ∧ (l2 = 61 → Q (some (w_i 300)) I J b))))))) : w_T xs xl 172 13 [some (.ref 104), u1, some (w_i l2), u3] [] [w_i s0] I J b Q := by
  refine w_bipush (q := 15) rfl rfl rfl ?_
  obtain ⟨h1, k⟩ := k
  refine w_cne (t := 22) (q := 18) rfl rfl rfl h1 (by decide) (fun c2 => ?_) (fun c2 => ?_)
  · replace k := k.1 c2
    refine w_iconst (q := 23) rfl rfl ?_
    refine w_istore_n (q := 24) (L' := [some (.ref 104), u1, some (w_i l2), some (w_i 0)]) (M' := []) rfl rfl rfl rfl rfl ?_
    refine w_iload_n (q := 25) rfl rfl rfl ?_
    refine w_bipush (q := 27) rfl rfl rfl ?_
    obtain ⟨h3, k⟩ := k
    refine w_cne (t := 42) (q := 30) rfl rfl rfl h3 (by decide) (fun c4 => ?_) (fun c4 => ?_)
    · replace k := k.1 c4
      refine w_iload_n (q := 43) rfl rfl rfl ?_
      refine w_bipush (q := 45) rfl rfl rfl ?_
      refine w_cne (t := 60) (q := 48) rfl rfl rfl h3 (by decide) (fun c5 => ?_) (fun c5 => ?_)
      · replace k := k.1 c5
        refine w_iload_n (q := 61) rfl rfl rfl ?_
        refine w_bipush (q := 63) rfl rfl rfl ?_
        refine w_cne (t := 78) (q := 66) rfl rfl rfl h3 (by decide) (fun c6 => ?_) (fun c6 => ?_)
        · replace k := k.1 c6
          refine w_iload_n (q := 79) rfl rfl rfl ?_
          refine w_bipush (q := 81) rfl rfl rfl ?_
          refine w_ceq (t := 120) (q := 84) rfl rfl rfl h3 (by decide) (fun c7 => ?_) (fun c7 => ?_)
          · replace k := k.1 c7
            refine w_iload_n (q := 121) rfl rfl rfl ?_
            refine w_goto (t := 125) rfl rfl ?_
            exact w_iret rfl rfl k
          · replace k := k.2 c7
            refine w_iload_n (q := 85) rfl rfl rfl ?_
            refine w_bipush (q := 87) rfl rfl rfl ?_
            refine w_ceq (t := 120) (q := 90) rfl rfl rfl h3 (by decide) (fun c8 => ?_) (fun c8 => ?_)
            · replace k := k.1 c8
              refine w_iload_n (q := 121) rfl rfl rfl ?_
              refine w_goto (t := 125) rfl rfl ?_
              exact w_iret rfl rfl k
            · replace k := k.2 c8
              refine w_iload_n (q := 91) rfl rfl rfl ?_
              refine w_bipush (q := 93) rfl rfl rfl ?_
              refine w_ceq (t := 120) (q := 96) rfl rfl rfl h3 (by decide) (fun c9 => ?_) (fun c9 => ?_)
              · replace k := k.1 c9
                refine w_iload_n (q := 121) rfl rfl rfl ?_
                refine w_goto (t := 125) rfl rfl ?_
                exact w_iret rfl rfl k
              · replace k := k.2 c9
                refine w_iload_n (q := 97) rfl rfl rfl ?_
                refine w_bipush (q := 99) rfl rfl rfl ?_
                refine w_ceq (t := 120) (q := 102) rfl rfl rfl h3 (by decide) (fun c10 => ?_) (fun c10 => ?_)
                · replace k := k.1 c10
                  refine w_iload_n (q := 121) rfl rfl rfl ?_
                  refine w_goto (t := 125) rfl rfl ?_
                  exact w_iret rfl rfl k
                · replace k := k.2 c10
                  refine w_iload_n (q := 103) rfl rfl rfl ?_
                  refine w_bipush (q := 105) rfl rfl rfl ?_
                  refine w_ceq (t := 120) (q := 108) rfl rfl rfl h3 (by decide) (fun c11 => ?_) (fun c11 => ?_)
                  · replace k := k.1 c11
                    refine w_iload_n (q := 121) rfl rfl rfl ?_
                    refine w_goto (t := 125) rfl rfl ?_
                    exact w_iret rfl rfl k
                  · replace k := k.2 c11
                    refine w_iload_n (q := 109) rfl rfl rfl ?_
                    refine w_bipush (q := 111) rfl rfl rfl ?_
                    refine w_ceq (t := 120) (q := 114) rfl rfl rfl h3 (by decide) (fun c12 => ?_) (fun c12 => ?_)
                    · replace k := k.1 c12
                      refine w_iload_n (q := 121) rfl rfl rfl ?_
                      refine w_goto (t := 125) rfl rfl ?_
                      exact w_iret rfl rfl k
                    · replace k := k.2 c12
                      refine w_iload_n (q := 115) rfl rfl rfl ?_
                      refine w_bipush (q := 117) rfl rfl rfl ?_
                      refine w_cne (t := 124) (q := 120) rfl rfl rfl h3 (by decide) (fun c13 => ?_) (fun c13 => ?_)
                      · replace k := k.1 c13
                        refine w_iconst (q := 125) rfl rfl ?_
                        exact w_iret rfl rfl k
                      · replace k := k.2 c13
                        refine w_iload_n (q := 121) rfl rfl rfl ?_
                        refine w_goto (t := 125) rfl rfl ?_
                        exact w_iret rfl rfl k
        · replace k := k.2 c6
          refine w_iload_n (q := 67) rfl rfl rfl ?_
          refine w_zeq (t := 76) (q := 70) rfl rfl rfl (by decide) (fun _ => ?_) (fun w => absurd w (by decide))
          refine w_iload_n (q := 77) rfl rfl rfl ?_
          exact w_iret rfl rfl k
      · replace k := k.2 c5
        refine w_iload_n (q := 49) rfl rfl rfl ?_
        refine w_zeq (t := 58) (q := 52) rfl rfl rfl (by decide) (fun _ => ?_) (fun w => absurd w (by decide))
        refine w_iconst (q := 59) rfl rfl ?_
        exact w_iret rfl rfl k
    · replace k := k.2 c4
      refine w_iload_n (q := 31) rfl rfl rfl ?_
      refine w_zeq (t := 40) (q := 34) rfl rfl rfl (by decide) (fun _ => ?_) (fun w => absurd w (by decide))
      refine w_iload_n (q := 41) rfl rfl rfl ?_
      exact w_iret rfl rfl k
  · replace k := k.2 c2
    refine w_iconst (q := 19) rfl rfl ?_
    refine w_goto (t := 23) rfl rfl ?_
    refine w_istore_n (q := 24) (L' := [some (.ref 104), u1, some (w_i l2), some (w_i 1)]) (M' := []) rfl rfl rfl rfl rfl ?_
    refine w_iload_n (q := 25) rfl rfl rfl ?_
    refine w_bipush (q := 27) rfl rfl rfl ?_
    obtain ⟨h14, k⟩ := k
    refine w_cne (t := 42) (q := 30) rfl rfl rfl h14 (by decide) (fun c15 => ?_) (fun c15 => ?_)
    · replace k := k.1 c15
      refine w_iload_n (q := 43) rfl rfl rfl ?_
      refine w_bipush (q := 45) rfl rfl rfl ?_
      refine w_cne (t := 60) (q := 48) rfl rfl rfl h14 (by decide) (fun c16 => ?_) (fun c16 => ?_)
      · replace k := k.1 c16
        refine w_iload_n (q := 61) rfl rfl rfl ?_
        refine w_bipush (q := 63) rfl rfl rfl ?_
        refine w_cne (t := 78) (q := 66) rfl rfl rfl h14 (by decide) (fun c17 => ?_) (fun c17 => ?_)
        · replace k := k.1 c17
          refine w_iload_n (q := 79) rfl rfl rfl ?_
          refine w_bipush (q := 81) rfl rfl rfl ?_
          refine w_ceq (t := 120) (q := 84) rfl rfl rfl h14 (by decide) (fun c18 => ?_) (fun c18 => ?_)
          · replace k := k.1 c18
            refine w_iload_n (q := 121) rfl rfl rfl ?_
            refine w_goto (t := 125) rfl rfl ?_
            exact w_iret rfl rfl k
          · replace k := k.2 c18
            refine w_iload_n (q := 85) rfl rfl rfl ?_
            refine w_bipush (q := 87) rfl rfl rfl ?_
            refine w_ceq (t := 120) (q := 90) rfl rfl rfl h14 (by decide) (fun c19 => ?_) (fun c19 => ?_)
            · replace k := k.1 c19
              refine w_iload_n (q := 121) rfl rfl rfl ?_
              refine w_goto (t := 125) rfl rfl ?_
              exact w_iret rfl rfl k
            · replace k := k.2 c19
              refine w_iload_n (q := 91) rfl rfl rfl ?_
              refine w_bipush (q := 93) rfl rfl rfl ?_
              refine w_ceq (t := 120) (q := 96) rfl rfl rfl h14 (by decide) (fun c20 => ?_) (fun c20 => ?_)
              · replace k := k.1 c20
                refine w_iload_n (q := 121) rfl rfl rfl ?_
                refine w_goto (t := 125) rfl rfl ?_
                exact w_iret rfl rfl k
              · replace k := k.2 c20
                refine w_iload_n (q := 97) rfl rfl rfl ?_
                refine w_bipush (q := 99) rfl rfl rfl ?_
                refine w_ceq (t := 120) (q := 102) rfl rfl rfl h14 (by decide) (fun c21 => ?_) (fun c21 => ?_)
                · replace k := k.1 c21
                  refine w_iload_n (q := 121) rfl rfl rfl ?_
                  refine w_goto (t := 125) rfl rfl ?_
                  exact w_iret rfl rfl k
                · replace k := k.2 c21
                  refine w_iload_n (q := 103) rfl rfl rfl ?_
                  refine w_bipush (q := 105) rfl rfl rfl ?_
                  refine w_ceq (t := 120) (q := 108) rfl rfl rfl h14 (by decide) (fun c22 => ?_) (fun c22 => ?_)
                  · replace k := k.1 c22
                    refine w_iload_n (q := 121) rfl rfl rfl ?_
                    refine w_goto (t := 125) rfl rfl ?_
                    exact w_iret rfl rfl k
                  · replace k := k.2 c22
                    refine w_iload_n (q := 109) rfl rfl rfl ?_
                    refine w_bipush (q := 111) rfl rfl rfl ?_
                    refine w_ceq (t := 120) (q := 114) rfl rfl rfl h14 (by decide) (fun c23 => ?_) (fun c23 => ?_)
                    · replace k := k.1 c23
                      refine w_iload_n (q := 121) rfl rfl rfl ?_
                      refine w_goto (t := 125) rfl rfl ?_
                      exact w_iret rfl rfl k
                    · replace k := k.2 c23
                      refine w_iload_n (q := 115) rfl rfl rfl ?_
                      refine w_bipush (q := 117) rfl rfl rfl ?_
                      refine w_cne (t := 124) (q := 120) rfl rfl rfl h14 (by decide) (fun c24 => ?_) (fun c24 => ?_)
                      · replace k := k.1 c24
                        refine w_iconst (q := 125) rfl rfl ?_
                        exact w_iret rfl rfl k
                      · replace k := k.2 c24
                        refine w_iload_n (q := 121) rfl rfl rfl ?_
                        refine w_goto (t := 125) rfl rfl ?_
                        exact w_iret rfl rfl k
        · replace k := k.2 c17
          refine w_iload_n (q := 67) rfl rfl rfl ?_
          refine w_zeq (t := 76) (q := 70) rfl rfl rfl (by decide) (fun w => absurd w (by decide)) (fun _ => ?_)
          refine w_sipush (q := 73) rfl rfl rfl ?_
          refine w_goto (t := 77) rfl rfl ?_
          exact w_iret rfl rfl k
      · replace k := k.2 c16
        refine w_iload_n (q := 49) rfl rfl rfl ?_
        refine w_zeq (t := 58) (q := 52) rfl rfl rfl (by decide) (fun w => absurd w (by decide)) (fun _ => ?_)
        refine w_sipush (q := 55) rfl rfl rfl ?_
        refine w_goto (t := 59) rfl rfl ?_
        exact w_iret rfl rfl k
    · replace k := k.2 c15
      refine w_iload_n (q := 31) rfl rfl rfl ?_
      refine w_zeq (t := 40) (q := 34) rfl rfl rfl (by decide) (fun w => absurd w (by decide)) (fun _ => ?_)
      refine w_sipush (q := 37) rfl rfl rfl ?_
      refine w_goto (t := 41) rfl rfl ?_
      exact w_iret rfl rfl k
theorem e173 {xs : Nat → Int32} {xl : Nat} {I J : w_I} {b : Bool} {Q : Option Value → w_I → w_I → Bool → Prop} {a1 : Int} (t : w_T xs xl 173 0 [some (.ref 104), some (w_i a1), none, none, none, none] [none, none, none, none, none, none] [] I J b Q) : w_C xs xl 173 [.ref 104, w_i a1] I J b Q := w_en rfl t
theorem b173_0 {xs : Nat → Int32} {xl : Nat} {I J : w_I} {b : Bool} {Q : Option Value → w_I → w_I → Bool → Prop} {a1 : Int} (k : w_C xs xl 168 [.ref 104, w_i a1] I J b (fun v Ic Jc bc => w_T xs xl 173 7 [some (.ref 104), some (w_i a1), some (w_i a1), none, none, none] [none, none, none, none, none, none] (w_pv v []) Ic Jc bc Q)) : w_T xs xl 173 0 [some (.ref 104), some (w_i a1), none, none, none, none] [none, none, none, none, none, none] [] I J b Q := by
  refine w_iload_n (q := 1) rfl rfl rfl ?_
  refine w_istore_n (q := 2) (L' := [some (.ref 104), some (w_i a1), some (w_i a1), none, none, none]) (M' := [none, none, none, none, none, none]) rfl rfl rfl rfl rfl ?_
  refine w_aload_n (q := 3) rfl rfl rfl ?_
  refine w_iload_n (q := 4) rfl rfl rfl ?_
  refine w_callv (q := 7) rfl rfl rfl rfl rfl rfl ?_
  exact k
theorem b173_7 {xs : Nat → Int32} {xl : Nat} {I J : w_I} {b : Bool} {Q : Option Value → w_I → w_I → Bool → Prop} {l1 l2 s0 : Int} {u3 u4 u5 : Option Value} {m0 m1 m2 m3 m4 m5 : Option Int64} (k : ((-2147483648 ≤ s0 ∧ s0 < 2147483648) ∧ ((s0 = 0 → w_C xs xl 169 [.ref 104, w_i l1] I J b (fun v Ic Jc bc => w_T xs xl 173 115 [some (.ref 104), some (w_i l1), some (w_i l2), u3, u4, u5] [m0, m1, m2, m3, m4, m5] (w_pv v []) Ic Jc bc Q)) ∧ (¬ s0 = 0 → w_T xs xl 173 12 [some (.ref 104), some (w_i l1), some (w_i l2), none, none, u5] [m0, m1, none, some (Int64.ofInt 0), none, m5] [] I J b Q)))) : w_T xs xl 173 7 [some (.ref 104), some (w_i l1), some (w_i l2), u3, u4, u5] [m0, m1, m2, m3, m4, m5] [w_i s0] I J b Q := by
  obtain ⟨h1, k⟩ := k
  refine w_zeq (t := 110) (q := 10) rfl rfl rfl h1 (fun c2 => ?_) (fun c2 => ?_)
  · replace k := k.1 c2
    refine w_aload_n (q := 111) rfl rfl rfl ?_
    refine w_iload_n (q := 112) rfl rfl rfl ?_
    refine w_callv (q := 115) rfl rfl rfl rfl rfl rfl ?_
    exact k
  · replace k := k.2 c2
    refine w_lconst (q := 11) (k := 0) rfl rfl rfl ?_
    refine w_lstore_n (q := 12) (L' := [some (.ref 104), some (w_i l1), some (w_i l2), none, none, u5]) (M' := [m0, m1, none, some (Int64.ofInt 0), none, m5]) rfl rfl rfl rfl rfl ?_
    exact k
theorem b173_115 {xs : Nat → Int32} {xl : Nat} {I J : w_I} {b : Bool} {Q : Option Value → w_I → w_I → Bool → Prop} {l1 l2 s0 : Int} {u3 u4 u5 : Option Value} {m0 m1 m2 m3 m4 m5 : Option Int64} (k : ((-2147483648 ≤ s0 ∧ s0 < 2147483648) ∧ ((s0 = 0 → w_C xs xl 172 [.ref 104, w_i l1] I J b (fun v Ic Jc bc => w_T xs xl 173 180 [some (.ref 104), some (w_i l1), some (w_i l2), u3, u4, u5] [m0, m1, m2, m3, m4, m5] (w_pv v []) Ic Jc bc Q)) ∧ (¬ s0 = 0 → w_T xs xl 173 120 [some (.ref 104), some (w_i l1), some (w_i l2), some (w_i 0), u4, u5] [m0, m1, none, none, m4, m5] [] I J b Q)))) : w_T xs xl 173 115 [some (.ref 104), some (w_i l1), some (w_i l2), u3, u4, u5] [m0, m1, m2, m3, m4, m5] [w_i s0] I J b Q := by
  obtain ⟨h1, k⟩ := k
  refine w_zeq (t := 175) (q := 118) rfl rfl rfl h1 (fun c2 => ?_) (fun c2 => ?_)
  · replace k := k.1 c2
    refine w_aload_n (q := 176) rfl rfl rfl ?_
    refine w_iload_n (q := 177) rfl rfl rfl ?_
    refine w_callv (q := 180) rfl rfl rfl rfl rfl rfl ?_
    exact k
  · replace k := k.2 c2
    refine w_iconst (q := 119) rfl rfl ?_
    refine w_istore_n (q := 120) (L' := [some (.ref 104), some (w_i l1), some (w_i l2), some (w_i 0), u4, u5]) (M' := [m0, m1, none, none, m4, m5]) rfl rfl rfl rfl rfl ?_
    exact k
theorem b173_12 {xs : Nat → Int32} {xl : Nat} {I J : w_I} {b : Bool} {Q : Option Value → w_I → w_I → Bool → Prop} {l1 l2 j3 : Int} {u4 u5 : Option Value} {m0 m1 m2 m4 m5 : Option Int64} (k : w_C xs xl 168 [.ref 104, w_i l2] I J b (fun v Ic Jc bc => w_T xs xl 173 17 [some (.ref 104), some (w_i l1), some (w_i l2), none, u4, u5] [m0, m1, m2, some (Int64.ofInt j3), m4, m5] (w_pv v []) Ic Jc bc Q)) : w_T xs xl 173 12 [some (.ref 104), some (w_i l1), some (w_i l2), none, u4, u5] [m0, m1, m2, some (Int64.ofInt j3), m4, m5] [] I J b Q := by
  refine w_aload_n (q := 13) rfl rfl rfl ?_
  refine w_iload_n (q := 14) rfl rfl rfl ?_
  refine w_callv (q := 17) rfl rfl rfl rfl rfl rfl ?_
  exact k
theorem b173_180 {xs : Nat → Int32} {xl : Nat} {I J : w_I} {b : Bool} {Q : Option Value → w_I → w_I → Bool → Prop} {l1 s0 : Int} {u2 u3 u4 u5 : Option Value} {m0 m1 m2 m3 m4 m5 : Option Int64} (k : ((-2147483648 ≤ s0 ∧ s0 < 2147483648) ∧ ((¬ s0 = 0 → w_C xs xl 170 [.ref 104, w_i 2, w_i l1, w_i s0] I J b (fun v Ic Jc bc => w_T xs xl 173 196 [some (.ref 104), some (w_i l1), u2, some (w_i s0), u4, u5] [m0, m1, none, none, m4, m5] (w_pv v []) Ic Jc bc Q)) ∧ (s0 = 0 → w_C xs xl 170 [.ref 104, w_i 5, w_i l1, w_i s0] I J b (fun v Ic Jc bc => w_T xs xl 173 196 [some (.ref 104), some (w_i l1), u2, some (w_i s0), u4, u5] [m0, m1, none, none, m4, m5] (w_pv v []) Ic Jc bc Q))))) : w_T xs xl 173 180 [some (.ref 104), some (w_i l1), u2, u3, u4, u5] [m0, m1, m2, m3, m4, m5] [w_i s0] I J b Q := by
  refine w_istore_n (q := 181) (L' := [some (.ref 104), some (w_i l1), u2, some (w_i s0), u4, u5]) (M' := [m0, m1, none, none, m4, m5]) rfl rfl rfl rfl rfl ?_
  refine w_aload_n (q := 182) rfl rfl rfl ?_
  refine w_iload_n (q := 183) rfl rfl rfl ?_
  obtain ⟨h1, k⟩ := k
  refine w_zne (t := 190) (q := 186) rfl rfl rfl h1 (fun c2 => ?_) (fun c2 => ?_)
  · replace k := k.1 c2
    refine w_iconst (q := 191) rfl rfl ?_
    refine w_iload_n (q := 192) rfl rfl rfl ?_
    refine w_iload_n (q := 193) rfl rfl rfl ?_
    refine w_callv (q := 196) rfl rfl rfl rfl rfl rfl ?_
    exact k
  · replace k := k.2 c2
    refine w_iconst (q := 187) rfl rfl ?_
    refine w_goto (t := 191) rfl rfl ?_
    refine w_iload_n (q := 192) rfl rfl rfl ?_
    refine w_iload_n (q := 193) rfl rfl rfl ?_
    refine w_callv (q := 196) rfl rfl rfl rfl rfl rfl ?_
    exact k
theorem b173_120 {xs : Nat → Int32} {xl : Nat} {I J : w_I} {b : Bool} {Q : Option Value → w_I → w_I → Bool → Prop} {l1 l2 l3 : Int} {u4 u5 : Option Value} {m0 m1 m2 m3 m4 m5 : Option Int64} (k : w_C xs xl 169 [.ref 104, w_i l2] I J b (fun v Ic Jc bc => w_T xs xl 173 125 [some (.ref 104), some (w_i l1), some (w_i l2), some (w_i l3), u4, u5] [m0, m1, m2, m3, m4, m5] (w_pv v []) Ic Jc bc Q)) : w_T xs xl 173 120 [some (.ref 104), some (w_i l1), some (w_i l2), some (w_i l3), u4, u5] [m0, m1, m2, m3, m4, m5] [] I J b Q := by
  refine w_aload_n (q := 121) rfl rfl rfl ?_
  refine w_iload_n (q := 122) rfl rfl rfl ?_
  refine w_callv (q := 125) rfl rfl rfl rfl rfl rfl ?_
  exact k
theorem b173_17 {xs : Nat → Int32} {xl : Nat} {I J : w_I} {b : Bool} {Q : Option Value → w_I → w_I → Bool → Prop} {l1 l2 j3 s0 : Int} {u4 u5 : Option Value} {m0 m1 m2 m4 m5 : Option Int64} (k : ((-2147483648 ≤ s0 ∧ s0 < 2147483648) ∧ ((s0 = 0 → ((-2147483648 ≤ l2 - l1 ∧ l2 - l1 < 2147483648) ∧ ((l2 - l1 ≤ 8 → w_C xs xl 171 [w_l j3] I J b (fun v Ic Jc bc => w_T xs xl 173 67 [some (.ref 104), some (w_i l1), some (w_i l2), none, u4, u5] [m0, m1, m2, some (Int64.ofInt j3), m4, m5] (w_pv v []) Ic Jc bc Q)) ∧ (¬ l2 - l1 ≤ 8 → ((0 ≤ I 104 2 ∧ I 104 2 < 2001) ∧ ((l2 - l1 ≤ 8 → w_C xs xl 170 [.ref 104, w_i 0, w_i l1, w_i (-1)] I (w_U J 109 (I 104 2) j3) b (fun v Ic Jc bc => w_T xs xl 173 108 [some (.ref 104), some (w_i l1), some (w_i l2), none, u4, some (w_i (-1))] [m0, m1, m2, some (Int64.ofInt j3), none, none] (w_pv v []) Ic Jc bc Q)) ∧ (¬ l2 - l1 ≤ 8 → w_C xs xl 170 [.ref 104, w_i 5, w_i l1, w_i (-1)] I (w_U J 109 (I 104 2) j3) b (fun v Ic Jc bc => w_T xs xl 173 108 [some (.ref 104), some (w_i l1), some (w_i l2), none, u4, some (w_i (-1))] [m0, m1, m2, some (Int64.ofInt j3), none, none] (w_pv v []) Ic Jc bc Q)))))))) ∧ (¬ s0 = 0 → ((-2147483648 ≤ l2 - l1 ∧ l2 - l1 < 2147483648) ∧ ((8 ≤ l2 - l1 → w_T xs xl 173 12 [some (.ref 104), some (w_i l1), some (w_i (l2 + 1)), none, u4, u5] [m0, none, none, some (Int64.ofInt j3), m4, m5] [] I J b Q) ∧ (¬ 8 ≤ l2 - l1 → w_C xs xl 167 [.ref 104, w_i l2] I J b (fun v Ic Jc bc => w_T xs xl 173 38 [some (.ref 104), some (w_i l1), some (w_i l2), none, u4, u5] [m0, m1, m2, some (Int64.ofInt j3), m4, m5] (w_pv v [w_l (j3 * 27)]) Ic Jc bc Q)))))))) : w_T xs xl 173 17 [some (.ref 104), some (w_i l1), some (w_i l2), none, u4, u5] [m0, m1, m2, some (Int64.ofInt j3), m4, m5] [w_i s0] I J b Q := by
  obtain ⟨h1, k⟩ := k
  refine w_zeq (t := 51) (q := 20) rfl rfl rfl h1 (fun c2 => ?_) (fun c2 => ?_)
  · replace k := k.1 c2
    refine w_iload_n (q := 52) rfl rfl rfl ?_
    refine w_iload_n (q := 53) rfl rfl rfl ?_
    refine w_isub (q := 54) rfl rfl ?_
    refine w_bipush (q := 56) rfl rfl rfl ?_
    obtain ⟨h3, k⟩ := k
    refine w_cle (t := 63) (q := 59) rfl rfl rfl h3 (by decide) (fun c4 => ?_) (fun c4 => ?_)
    · replace k := k.1 c4
      refine w_lload_n (q := 64) rfl rfl rfl ?_
      refine w_call (q := 67) rfl rfl rfl rfl rfl ?_
      exact k
    · replace k := k.2 c4
      refine w_iconst (q := 60) rfl rfl ?_
      refine w_goto (t := 67) rfl rfl ?_
      refine w_istore (q := 69) (L' := [some (.ref 104), some (w_i l1), some (w_i l2), none, u4, some (w_i (-1))]) (M' := [m0, m1, m2, some (Int64.ofInt j3), none, none]) rfl rfl rfl rfl rfl ?_
      refine w_aload_n (q := 70) rfl rfl rfl ?_
      refine w_gfr (q := 73) rfl rfl rfl rfl (j := 109) rfl ?_
      refine w_aload_n (q := 74) rfl rfl rfl ?_
      refine w_gfi (q := 77) (k' := 2) (v := I 104 2) rfl rfl rfl rfl rfl rfl rfl ?_
      refine w_lload_n (q := 78) rfl rfl rfl ?_
      obtain ⟨h5, k⟩ := k
      refine w_jast (q := 79) (n := 2001) rfl rfl rfl rfl rfl h5 ?_
      refine w_aload_n (q := 80) rfl rfl rfl ?_
      refine w_iload_n (q := 81) rfl rfl rfl ?_
      refine w_iload_n (q := 82) rfl rfl rfl ?_
      refine w_isub (q := 83) rfl rfl ?_
      refine w_bipush (q := 85) rfl rfl rfl ?_
      refine w_cle (t := 92) (q := 88) rfl rfl rfl h3 (by decide) (fun c6 => ?_) (fun c6 => ?_)
      · replace k := k.1 c6
        refine w_iload (q := 94) rfl rfl rfl ?_
        refine w_zlt (t := 101) (q := 97) rfl rfl rfl (by decide) (fun _ => ?_) (fun w => absurd w (by decide))
        refine w_iconst (q := 102) rfl rfl ?_
        refine w_iload_n (q := 103) rfl rfl rfl ?_
        refine w_iload (q := 105) rfl rfl rfl ?_
        refine w_callv (q := 108) rfl rfl rfl rfl rfl rfl ?_
        exact k
      · replace k := k.2 c6
        refine w_iconst (q := 89) rfl rfl ?_
        refine w_goto (t := 102) rfl rfl ?_
        refine w_iload_n (q := 103) rfl rfl rfl ?_
        refine w_iload (q := 105) rfl rfl rfl ?_
        refine w_callv (q := 108) rfl rfl rfl rfl rfl rfl ?_
        exact k
  · replace k := k.2 c2
    refine w_iload_n (q := 21) rfl rfl rfl ?_
    refine w_iload_n (q := 22) rfl rfl rfl ?_
    refine w_isub (q := 23) rfl rfl ?_
    refine w_bipush (q := 25) rfl rfl rfl ?_
    obtain ⟨h7, k⟩ := k
    refine w_cge (t := 45) (q := 28) rfl rfl rfl h7 (by decide) (fun c8 => ?_) (fun c8 => ?_)
    · replace k := k.1 c8
      refine w_iinc (q := 48) (L' := [some (.ref 104), some (w_i l1), some (w_i (l2 + 1)), none, u4, u5]) (M' := [m0, none, none, some (Int64.ofInt j3), m4, m5]) rfl rfl rfl rfl rfl rfl ?_
      refine w_goto (t := 12) rfl rfl ?_
      exact k
    · replace k := k.2 c8
      refine w_lload_n (q := 29) rfl rfl rfl ?_
      refine w_ldc2 (q := 32) (n := 27) rfl rfl rfl ?_
      refine w_lmul (q := 33) rfl rfl ?_
      refine w_aload_n (q := 34) rfl rfl rfl ?_
      refine w_iload_n (q := 35) rfl rfl rfl ?_
      refine w_callv (q := 38) rfl rfl rfl rfl rfl rfl ?_
      exact k
theorem b173_196 {xs : Nat → Int32} {xl : Nat} {I J : w_I} {b : Bool} {Q : Option Value → w_I → w_I → Bool → Prop} {l1 l3 : Int} {u2 u4 u5 : Option Value} {m0 m1 m2 m3 m4 m5 : Option Int64} (k : ((-2147483648 ≤ l3 ∧ l3 < 2147483648) ∧ ((l3 < 300 → Q (some (w_i (l1 + 1))) I J b) ∧ (¬ l3 < 300 → Q (some (w_i (l1 + 2))) I J b)))) : w_T xs xl 173 196 [some (.ref 104), some (w_i l1), u2, some (w_i l3), u4, u5] [m0, m1, m2, m3, m4, m5] [] I J b Q := by
  refine w_iload_n (q := 197) rfl rfl rfl ?_
  refine w_iload_n (q := 198) rfl rfl rfl ?_
  refine w_sipush (q := 201) rfl rfl rfl ?_
  obtain ⟨h1, k⟩ := k
  refine w_clt (t := 208) (q := 204) rfl rfl rfl h1 (by decide) (fun c2 => ?_) (fun c2 => ?_)
  · replace k := k.1 c2
    refine w_iconst (q := 209) rfl rfl ?_
    refine w_iadd (q := 210) rfl rfl ?_
    exact w_iret rfl rfl k
  · replace k := k.2 c2
    refine w_iconst (q := 205) rfl rfl ?_
    refine w_goto (t := 209) rfl rfl ?_
    refine w_iadd (q := 210) rfl rfl ?_
    exact w_iret rfl rfl k
theorem b173_125 {xs : Nat → Int32} {xl : Nat} {I J : w_I} {b : Bool} {Q : Option Value → w_I → w_I → Bool → Prop} {l1 l2 l3 s0 : Int} {u4 u5 : Option Value} {m0 m1 m2 m3 m4 m5 : Option Int64} (k : ((-2147483648 ≤ s0 ∧ s0 < 2147483648) ∧ ((s0 = 0 → ((-2147483648 ≤ l2 - l1 ∧ l2 - l1 < 2147483648) ∧ ((l2 - l1 ≤ 4 → w_C xs xl 170 [.ref 104, w_i 1, w_i l1, w_i l3] I J b (fun v Ic Jc bc => w_T xs xl 173 173 [some (.ref 104), some (w_i l1), some (w_i l2), some (w_i l3), u4, u5] [m0, m1, m2, m3, m4, m5] (w_pv v []) Ic Jc bc Q)) ∧ (¬ l2 - l1 ≤ 4 → w_C xs xl 170 [.ref 104, w_i 5, w_i l1, w_i l3] I J b (fun v Ic Jc bc => w_T xs xl 173 173 [some (.ref 104), some (w_i l1), some (w_i l2), some (w_i l3), u4, u5] [m0, m1, m2, m3, m4, m5] (w_pv v []) Ic Jc bc Q))))) ∧ (¬ s0 = 0 → ((-2147483648 ≤ l2 - l1 ∧ l2 - l1 < 2147483648) ∧ ((4 ≤ l2 - l1 → w_T xs xl 173 120 [some (.ref 104), some (w_i l1), some (w_i (l2 + 1)), some (w_i l3), u4, u5] [m0, none, none, m3, m4, m5] [] I J b Q) ∧ (¬ 4 ≤ l2 - l1 → w_C xs xl 167 [.ref 104, w_i l2] I J b (fun v Ic Jc bc => w_T xs xl 173 144 [some (.ref 104), some (w_i l1), some (w_i l2), some (w_i l3), u4, u5] [m0, m1, m2, m3, m4, m5] (w_pv v [w_i (10 * l3)]) Ic Jc bc Q)))))))) : w_T xs xl 173 125 [some (.ref 104), some (w_i l1), some (w_i l2), some (w_i l3), u4, u5] [m0, m1, m2, m3, m4, m5] [w_i s0] I J b Q := by
  obtain ⟨h1, k⟩ := k
  refine w_zeq (t := 155) (q := 128) rfl rfl rfl h1 (fun c2 => ?_) (fun c2 => ?_)
  · replace k := k.1 c2
    refine w_aload_n (q := 156) rfl rfl rfl ?_
    refine w_iload_n (q := 157) rfl rfl rfl ?_
    refine w_iload_n (q := 158) rfl rfl rfl ?_
    refine w_isub (q := 159) rfl rfl ?_
    refine w_iconst (q := 160) rfl rfl ?_
    obtain ⟨h3, k⟩ := k
    refine w_cle (t := 167) (q := 163) rfl rfl rfl h3 (by decide) (fun c4 => ?_) (fun c4 => ?_)
    · replace k := k.1 c4
      refine w_iconst (q := 168) rfl rfl ?_
      refine w_iload_n (q := 169) rfl rfl rfl ?_
      refine w_iload_n (q := 170) rfl rfl rfl ?_
      refine w_callv (q := 173) rfl rfl rfl rfl rfl rfl ?_
      exact k
    · replace k := k.2 c4
      refine w_iconst (q := 164) rfl rfl ?_
      refine w_goto (t := 168) rfl rfl ?_
      refine w_iload_n (q := 169) rfl rfl rfl ?_
      refine w_iload_n (q := 170) rfl rfl rfl ?_
      refine w_callv (q := 173) rfl rfl rfl rfl rfl rfl ?_
      exact k
  · replace k := k.2 c2
    refine w_iload_n (q := 129) rfl rfl rfl ?_
    refine w_iload_n (q := 130) rfl rfl rfl ?_
    refine w_isub (q := 131) rfl rfl ?_
    refine w_iconst (q := 132) rfl rfl ?_
    obtain ⟨h5, k⟩ := k
    refine w_cge (t := 149) (q := 135) rfl rfl rfl h5 (by decide) (fun c6 => ?_) (fun c6 => ?_)
    · replace k := k.1 c6
      refine w_iinc (q := 152) (L' := [some (.ref 104), some (w_i l1), some (w_i (l2 + 1)), some (w_i l3), u4, u5]) (M' := [m0, none, none, m3, m4, m5]) rfl rfl rfl rfl rfl rfl ?_
      refine w_goto (t := 120) rfl rfl ?_
      exact k
    · replace k := k.2 c6
      refine w_bipush (q := 137) rfl rfl rfl ?_
      refine w_iload_n (q := 138) rfl rfl rfl ?_
      refine w_imul (q := 139) rfl rfl ?_
      refine w_aload_n (q := 140) rfl rfl rfl ?_
      refine w_iload_n (q := 141) rfl rfl rfl ?_
      refine w_callv (q := 144) rfl rfl rfl rfl rfl rfl ?_
      exact k
theorem b173_67 {xs : Nat → Int32} {xl : Nat} {I J : w_I} {b : Bool} {Q : Option Value → w_I → w_I → Bool → Prop} {l1 l2 j3 s0 : Int} {u4 u5 : Option Value} {m0 m1 m2 m4 m5 : Option Int64} (k : ((0 ≤ I 104 2 ∧ I 104 2 < 2001) ∧ ((-2147483648 ≤ l2 - l1 ∧ l2 - l1 < 2147483648) ∧ ((l2 - l1 ≤ 8 → ((-2147483648 ≤ s0 ∧ s0 < 2147483648) ∧ ((s0 < 0 → w_C xs xl 170 [.ref 104, w_i 0, w_i l1, w_i s0] I (w_U J 109 (I 104 2) j3) b (fun v Ic Jc bc => w_T xs xl 173 108 [some (.ref 104), some (w_i l1), some (w_i l2), none, u4, some (w_i s0)] [m0, m1, m2, some (Int64.ofInt j3), none, none] (w_pv v []) Ic Jc bc Q)) ∧ (¬ s0 < 0 → w_C xs xl 170 [.ref 104, w_i 3, w_i l1, w_i s0] I (w_U J 109 (I 104 2) j3) b (fun v Ic Jc bc => w_T xs xl 173 108 [some (.ref 104), some (w_i l1), some (w_i l2), none, u4, some (w_i s0)] [m0, m1, m2, some (Int64.ofInt j3), none, none] (w_pv v []) Ic Jc bc Q))))) ∧ (¬ l2 - l1 ≤ 8 → w_C xs xl 170 [.ref 104, w_i 5, w_i l1, w_i s0] I (w_U J 109 (I 104 2) j3) b (fun v Ic Jc bc => w_T xs xl 173 108 [some (.ref 104), some (w_i l1), some (w_i l2), none, u4, some (w_i s0)] [m0, m1, m2, some (Int64.ofInt j3), none, none] (w_pv v []) Ic Jc bc Q)))))) : w_T xs xl 173 67 [some (.ref 104), some (w_i l1), some (w_i l2), none, u4, u5] [m0, m1, m2, some (Int64.ofInt j3), m4, m5] [w_i s0] I J b Q := by
  refine w_istore (q := 69) (L' := [some (.ref 104), some (w_i l1), some (w_i l2), none, u4, some (w_i s0)]) (M' := [m0, m1, m2, some (Int64.ofInt j3), none, none]) rfl rfl rfl rfl rfl ?_
  refine w_aload_n (q := 70) rfl rfl rfl ?_
  refine w_gfr (q := 73) rfl rfl rfl rfl (j := 109) rfl ?_
  refine w_aload_n (q := 74) rfl rfl rfl ?_
  refine w_gfi (q := 77) (k' := 2) (v := I 104 2) rfl rfl rfl rfl rfl rfl rfl ?_
  refine w_lload_n (q := 78) rfl rfl rfl ?_
  obtain ⟨h1, k⟩ := k
  refine w_jast (q := 79) (n := 2001) rfl rfl rfl rfl rfl h1 ?_
  refine w_aload_n (q := 80) rfl rfl rfl ?_
  refine w_iload_n (q := 81) rfl rfl rfl ?_
  refine w_iload_n (q := 82) rfl rfl rfl ?_
  refine w_isub (q := 83) rfl rfl ?_
  refine w_bipush (q := 85) rfl rfl rfl ?_
  obtain ⟨h2, k⟩ := k
  refine w_cle (t := 92) (q := 88) rfl rfl rfl h2 (by decide) (fun c3 => ?_) (fun c3 => ?_)
  · replace k := k.1 c3
    refine w_iload (q := 94) rfl rfl rfl ?_
    obtain ⟨h4, k⟩ := k
    refine w_zlt (t := 101) (q := 97) rfl rfl rfl h4 (fun c5 => ?_) (fun c5 => ?_)
    · replace k := k.1 c5
      refine w_iconst (q := 102) rfl rfl ?_
      refine w_iload_n (q := 103) rfl rfl rfl ?_
      refine w_iload (q := 105) rfl rfl rfl ?_
      refine w_callv (q := 108) rfl rfl rfl rfl rfl rfl ?_
      exact k
    · replace k := k.2 c5
      refine w_iconst (q := 98) rfl rfl ?_
      refine w_goto (t := 102) rfl rfl ?_
      refine w_iload_n (q := 103) rfl rfl rfl ?_
      refine w_iload (q := 105) rfl rfl rfl ?_
      refine w_callv (q := 108) rfl rfl rfl rfl rfl rfl ?_
      exact k
  · replace k := k.2 c3
    refine w_iconst (q := 89) rfl rfl ?_
    refine w_goto (t := 102) rfl rfl ?_
    refine w_iload_n (q := 103) rfl rfl rfl ?_
    refine w_iload (q := 105) rfl rfl rfl ?_
    refine w_callv (q := 108) rfl rfl rfl rfl rfl rfl ?_
    exact k
theorem b173_108 {xs : Nat → Int32} {xl : Nat} {I J : w_I} {b : Bool} {Q : Option Value → w_I → w_I → Bool → Prop} {u1 u3 u4 u5 : Option Value} {l2 : Int} {m0 m1 m2 m3 m4 m5 : Option Int64} (k : Q (some (w_i l2)) I J b) : w_T xs xl 173 108 [some (.ref 104), u1, some (w_i l2), u3, u4, u5] [m0, m1, m2, m3, m4, m5] [] I J b Q := by
  refine w_iload_n (q := 109) rfl rfl rfl ?_
  exact w_iret rfl rfl k
theorem b173_38 {xs : Nat → Int32} {xl : Nat} {I J : w_I} {b : Bool} {Q : Option Value → w_I → w_I → Bool → Prop} {l1 l2 s0 s1 : Int} {u3 u4 u5 : Option Value} {m0 m1 m2 m3 m4 m5 : Option Int64} (k : ((-2147483648 ≤ s1 ∧ s1 < 2147483648) ∧ w_T xs xl 173 12 [some (.ref 104), some (w_i l1), some (w_i (l2 + 1)), none, none, u5] [m0, none, none, some (Int64.ofInt (s0 + s1 - 96)), none, m5] [] I J b Q)) : w_T xs xl 173 38 [some (.ref 104), some (w_i l1), some (w_i l2), u3, u4, u5] [m0, m1, m2, m3, m4, m5] [w_i s1, w_l s0] I J b Q := by
  obtain ⟨h1, k⟩ := k
  refine w_i2l (q := 39) rfl rfl h1 ?_
  refine w_ladd (q := 40) rfl rfl ?_
  refine w_ldc2 (q := 43) (n := 96) rfl rfl rfl ?_
  refine w_lsub (q := 44) rfl rfl ?_
  refine w_lstore_n (q := 45) (L' := [some (.ref 104), some (w_i l1), some (w_i l2), none, none, u5]) (M' := [m0, m1, none, some (Int64.ofInt (s0 + s1 - 96)), none, m5]) rfl rfl rfl rfl rfl ?_
  refine w_iinc (q := 48) (L' := [some (.ref 104), some (w_i l1), some (w_i (l2 + 1)), none, none, u5]) (M' := [m0, none, none, some (Int64.ofInt (s0 + s1 - 96)), none, m5]) rfl rfl rfl rfl rfl rfl ?_
  refine w_goto (t := 12) rfl rfl ?_
  exact k
theorem b173_173 {xs : Nat → Int32} {xl : Nat} {I J : w_I} {b : Bool} {Q : Option Value → w_I → w_I → Bool → Prop} {u1 u3 u4 u5 : Option Value} {l2 : Int} {m0 m1 m2 m3 m4 m5 : Option Int64} (k : Q (some (w_i l2)) I J b) : w_T xs xl 173 173 [some (.ref 104), u1, some (w_i l2), u3, u4, u5] [m0, m1, m2, m3, m4, m5] [] I J b Q := by
  refine w_iload_n (q := 174) rfl rfl rfl ?_
  exact w_iret rfl rfl k
theorem b173_144 {xs : Nat → Int32} {xl : Nat} {I J : w_I} {b : Bool} {Q : Option Value → w_I → w_I → Bool → Prop} {l1 l2 s0 s1 : Int} {u3 u4 u5 : Option Value} {m0 m1 m2 m3 m4 m5 : Option Int64} (k : w_T xs xl 173 120 [some (.ref 104), some (w_i l1), some (w_i (l2 + 1)), some (w_i (s0 + s1 - 48)), u4, u5] [m0, none, none, none, m4, m5] [] I J b Q) : w_T xs xl 173 144 [some (.ref 104), some (w_i l1), some (w_i l2), u3, u4, u5] [m0, m1, m2, m3, m4, m5] [w_i s1, w_i s0] I J b Q := by
  refine w_iadd (q := 145) rfl rfl ?_
  refine w_bipush (q := 147) rfl rfl rfl ?_
  refine w_isub (q := 148) rfl rfl ?_
  refine w_istore_n (q := 149) (L' := [some (.ref 104), some (w_i l1), some (w_i l2), some (w_i (s0 + s1 - 48)), u4, u5]) (M' := [m0, m1, none, none, m4, m5]) rfl rfl rfl rfl rfl ?_
  refine w_iinc (q := 152) (L' := [some (.ref 104), some (w_i l1), some (w_i (l2 + 1)), some (w_i (s0 + s1 - 48)), u4, u5]) (M' := [m0, none, none, none, m4, m5]) rfl rfl rfl rfl rfl rfl ?_
  refine w_goto (t := 120) rfl rfl ?_
  exact k
theorem e174 {xs : Nat → Int32} {xl : Nat} {I J : w_I} {b : Bool} {Q : Option Value → w_I → w_I → Bool → Prop} (t : w_T xs xl 174 0 [some (.ref 104), none, none, none] [] [] I J b Q) : w_C xs xl 174 [.ref 104] I J b Q := w_en rfl t
theorem b174_0 {xs : Nat → Int32} {xl : Nat} {I J : w_I} {b : Bool} {Q : Option Value → w_I → w_I → Bool → Prop} (k : w_T xs xl 174 9 [some (.ref 104), some (w_i 0), some (w_i 1), none] [] [] (w_U I 104 2 0) J b Q) : w_T xs xl 174 0 [some (.ref 104), none, none, none] [] [] I J b Q := by
  refine w_aload_n (q := 1) rfl rfl rfl ?_
  refine w_iconst (q := 2) rfl rfl ?_
  refine w_pfi (q := 5) (k' := 2) rfl rfl rfl rfl ?_
  refine w_iconst (q := 6) rfl rfl ?_
  refine w_istore_n (q := 7) (L' := [some (.ref 104), some (w_i 0), none, none]) (M' := []) rfl rfl rfl rfl rfl ?_
  refine w_iconst (q := 8) rfl rfl ?_
  refine w_istore_n (q := 9) (L' := [some (.ref 104), some (w_i 0), some (w_i 1), none]) (M' := []) rfl rfl rfl rfl rfl ?_
  exact k
theorem b174_9 {xs : Nat → Int32} {xl : Nat} {I J : w_I} {b : Bool} {Q : Option Value → w_I → w_I → Bool → Prop} {l1 l2 : Int} {u3 : Option Value} (k : ((-2147483648 ≤ l1 ∧ l1 < 2147483648) ∧ (-2147483648 ≤ I 104 0 ∧ I 104 0 < 2147483648) ∧ ((I 104 0 ≤ l1 → ((-2147483648 ≤ l2 ∧ l2 < 2147483648) ∧ ((l2 = 0 → Q none I J b) ∧ (¬ l2 = 0 → w_C xs xl 170 [.ref 104, w_i 4, w_i (I 104 0), w_i 0] I J b (fun v Ic Jc bc => w_T xs xl 174 101 [some (.ref 104), some (w_i l1), some (w_i l2), u3] [] (w_pv v []) Ic Jc bc Q))))) ∧ (¬ I 104 0 ≤ l1 → ((-2147483648 ≤ l2 ∧ l2 < 2147483648) ∧ ((l2 = 0 → ((l2 = 0 → Q none I J b) ∧ (¬ l2 = 0 → w_C xs xl 170 [.ref 104, w_i 4, w_i (I 104 0), w_i 0] I J b (fun v Ic Jc bc => w_T xs xl 174 101 [some (.ref 104), some (w_i l1), some (w_i l2), u3] [] (w_pv v []) Ic Jc bc Q)))) ∧ (¬ l2 = 0 → w_C xs xl 167 [.ref 104, w_i l1] I J b (fun v Ic Jc bc => w_T xs xl 174 26 [some (.ref 104), some (w_i l1), some (w_i l2), u3] [] (w_pv v []) Ic Jc bc Q)))))))) : w_T xs xl 174 9 [some (.ref 104), some (w_i l1), some (w_i l2), u3] [] [] I J b Q := by
  refine w_iload_n (q := 10) rfl rfl rfl ?_
  refine w_aload_n (q := 11) rfl rfl rfl ?_
  refine w_gfi (q := 14) (k' := 0) (v := I 104 0) rfl rfl rfl rfl rfl rfl rfl ?_
  obtain ⟨h1, h2, k⟩ := k
  refine w_cge (t := 87) (q := 17) rfl rfl rfl h1 h2 (fun c3 => ?_) (fun c3 => ?_)
  · replace k := k.1 c3
    refine w_iload_n (q := 88) rfl rfl rfl ?_
    obtain ⟨h4, k⟩ := k
    refine w_zeq (t := 101) (q := 91) rfl rfl rfl h4 (fun c5 => ?_) (fun c5 => ?_)
    · replace k := k.1 c5
      exact w_vret rfl k
    · replace k := k.2 c5
      refine w_aload_n (q := 92) rfl rfl rfl ?_
      refine w_iconst (q := 93) rfl rfl ?_
      refine w_aload_n (q := 94) rfl rfl rfl ?_
      refine w_gfi (q := 97) (k' := 0) (v := I 104 0) rfl rfl rfl rfl rfl rfl rfl ?_
      refine w_iconst (q := 98) rfl rfl ?_
      refine w_callv (q := 101) rfl rfl rfl rfl rfl rfl ?_
      exact k
  · replace k := k.2 c3
    refine w_iload_n (q := 18) rfl rfl rfl ?_
    obtain ⟨h6, k⟩ := k
    refine w_zeq (t := 87) (q := 21) rfl rfl rfl h6 (fun c7 => ?_) (fun c7 => ?_)
    · replace k := k.1 c7
      refine w_iload_n (q := 88) rfl rfl rfl ?_
      refine w_zeq (t := 101) (q := 91) rfl rfl rfl h6 (fun c8 => ?_) (fun c8 => ?_)
      · replace k := k.1 c8
        exact w_vret rfl k
      · replace k := k.2 c8
        refine w_aload_n (q := 92) rfl rfl rfl ?_
        refine w_iconst (q := 93) rfl rfl ?_
        refine w_aload_n (q := 94) rfl rfl rfl ?_
        refine w_gfi (q := 97) (k' := 0) (v := I 104 0) rfl rfl rfl rfl rfl rfl rfl ?_
        refine w_iconst (q := 98) rfl rfl ?_
        refine w_callv (q := 101) rfl rfl rfl rfl rfl rfl ?_
        exact k
    · replace k := k.2 c7
      refine w_aload_n (q := 22) rfl rfl rfl ?_
      refine w_iload_n (q := 23) rfl rfl rfl ?_
      refine w_callv (q := 26) rfl rfl rfl rfl rfl rfl ?_
      exact k
theorem b174_101 {xs : Nat → Int32} {xl : Nat} {I J : w_I} {b : Bool} {Q : Option Value → w_I → w_I → Bool → Prop} {u1 u2 u3 : Option Value} (k : Q none I J b) : w_T xs xl 174 101 [some (.ref 104), u1, u2, u3] [] [] I J b Q := by
  exact w_vret rfl k
theorem b174_26 {xs : Nat → Int32} {xl : Nat} {I J : w_I} {b : Bool} {Q : Option Value → w_I → w_I → Bool → Prop} {l1 l2 s0 : Int} {u3 : Option Value} (k : ((-2147483648 ≤ s0 ∧ s0 < 2147483648) ∧ ((s0 = 32 → w_T xs xl 174 9 [some (.ref 104), some (w_i (l1 + 1)), some (w_i l2), some (w_i s0)] [] [] I J b Q) ∧ (¬ s0 = 32 → ((s0 = 9 → w_T xs xl 174 9 [some (.ref 104), some (w_i (l1 + 1)), some (w_i l2), some (w_i s0)] [] [] I J b Q) ∧ (¬ s0 = 9 → ((s0 = 10 → w_T xs xl 174 9 [some (.ref 104), some (w_i (l1 + 1)), some (w_i l2), some (w_i s0)] [] [] I J b Q) ∧ (¬ s0 = 10 → ((¬ s0 = 13 → w_C xs xl 173 [.ref 104, w_i l1] I J b (fun v Ic Jc bc => w_T xs xl 174 62 [some (.ref 104), some (w_i l1), some (w_i l2), some (w_i s0)] [] (w_pv v []) Ic Jc bc Q)) ∧ (s0 = 13 → w_T xs xl 174 9 [some (.ref 104), some (w_i (l1 + 1)), some (w_i l2), some (w_i s0)] [] [] I J b Q)))))))))) : w_T xs xl 174 26 [some (.ref 104), some (w_i l1), some (w_i l2), u3] [] [w_i s0] I J b Q := by
  refine w_istore_n (q := 27) (L' := [some (.ref 104), some (w_i l1), some (w_i l2), some (w_i s0)]) (M' := []) rfl rfl rfl rfl rfl ?_
  refine w_iload_n (q := 28) rfl rfl rfl ?_
  refine w_bipush (q := 30) rfl rfl rfl ?_
  obtain ⟨h1, k⟩ := k
  refine w_ceq (t := 51) (q := 33) rfl rfl rfl h1 (by decide) (fun c2 => ?_) (fun c2 => ?_)
  · replace k := k.1 c2
    refine w_iinc (q := 54) (L' := [some (.ref 104), some (w_i (l1 + 1)), some (w_i l2), some (w_i s0)]) (M' := []) rfl rfl rfl rfl rfl rfl ?_
    refine w_goto (t := 9) rfl rfl ?_
    exact k
  · replace k := k.2 c2
    refine w_iload_n (q := 34) rfl rfl rfl ?_
    refine w_bipush (q := 36) rfl rfl rfl ?_
    refine w_ceq (t := 51) (q := 39) rfl rfl rfl h1 (by decide) (fun c3 => ?_) (fun c3 => ?_)
    · replace k := k.1 c3
      refine w_iinc (q := 54) (L' := [some (.ref 104), some (w_i (l1 + 1)), some (w_i l2), some (w_i s0)]) (M' := []) rfl rfl rfl rfl rfl rfl ?_
      refine w_goto (t := 9) rfl rfl ?_
      exact k
    · replace k := k.2 c3
      refine w_iload_n (q := 40) rfl rfl rfl ?_
      refine w_bipush (q := 42) rfl rfl rfl ?_
      refine w_ceq (t := 51) (q := 45) rfl rfl rfl h1 (by decide) (fun c4 => ?_) (fun c4 => ?_)
      · replace k := k.1 c4
        refine w_iinc (q := 54) (L' := [some (.ref 104), some (w_i (l1 + 1)), some (w_i l2), some (w_i s0)]) (M' := []) rfl rfl rfl rfl rfl rfl ?_
        refine w_goto (t := 9) rfl rfl ?_
        exact k
      · replace k := k.2 c4
        refine w_iload_n (q := 46) rfl rfl rfl ?_
        refine w_bipush (q := 48) rfl rfl rfl ?_
        refine w_cne (t := 57) (q := 51) rfl rfl rfl h1 (by decide) (fun c5 => ?_) (fun c5 => ?_)
        · replace k := k.1 c5
          refine w_aload_n (q := 58) rfl rfl rfl ?_
          refine w_iload_n (q := 59) rfl rfl rfl ?_
          refine w_callv (q := 62) rfl rfl rfl rfl rfl rfl ?_
          exact k
        · replace k := k.2 c5
          refine w_iinc (q := 54) (L' := [some (.ref 104), some (w_i (l1 + 1)), some (w_i l2), some (w_i s0)]) (M' := []) rfl rfl rfl rfl rfl rfl ?_
          refine w_goto (t := 9) rfl rfl ?_
          exact k
theorem b174_62 {xs : Nat → Int32} {xl : Nat} {I J : w_I} {b : Bool} {Q : Option Value → w_I → w_I → Bool → Prop} {u1 u2 u3 : Option Value} {s0 : Int} (k : ((0 ≤ I 104 2 - 1 ∧ I 104 2 - 1 < 2001) ∧ ((-2147483648 ≤ I 106 (I 104 2 - 1) ∧ I 106 (I 104 2 - 1) < 2147483648) ∧ ((I 106 (I 104 2 - 1) = 5 → w_T xs xl 174 9 [some (.ref 104), some (w_i s0), some (w_i 0), u3] [] [] I J b Q) ∧ (¬ I 106 (I 104 2 - 1) = 5 → w_T xs xl 174 9 [some (.ref 104), some (w_i s0), some (w_i 1), u3] [] [] I J b Q))))) : w_T xs xl 174 62 [some (.ref 104), u1, u2, u3] [] [w_i s0] I J b Q := by
  refine w_istore_n (q := 63) (L' := [some (.ref 104), some (w_i s0), u2, u3]) (M' := []) rfl rfl rfl rfl rfl ?_
  refine w_aload_n (q := 64) rfl rfl rfl ?_
  refine w_gfr (q := 67) rfl rfl rfl rfl (j := 106) rfl ?_
  refine w_aload_n (q := 68) rfl rfl rfl ?_
  refine w_gfi (q := 71) (k' := 2) (v := I 104 2) rfl rfl rfl rfl rfl rfl rfl ?_
  refine w_iconst (q := 72) rfl rfl ?_
  refine w_isub (q := 73) rfl rfl ?_
  obtain ⟨h1, k⟩ := k
  refine w_iald (q := 74) (n := 2001) (v := I 106 (I 104 2 - 1)) rfl rfl rfl rfl rfl rfl h1 ?_
  refine w_iconst (q := 75) rfl rfl ?_
  obtain ⟨h2, k⟩ := k
  refine w_ceq (t := 82) (q := 78) rfl rfl rfl h2 (by decide) (fun c3 => ?_) (fun c3 => ?_)
  · replace k := k.1 c3
    refine w_iconst (q := 83) rfl rfl ?_
    refine w_istore_n (q := 84) (L' := [some (.ref 104), some (w_i s0), some (w_i 0), u3]) (M' := []) rfl rfl rfl rfl rfl ?_
    refine w_goto (t := 9) rfl rfl ?_
    exact k
  · replace k := k.2 c3
    refine w_iconst (q := 79) rfl rfl ?_
    refine w_goto (t := 83) rfl rfl ?_
    refine w_istore_n (q := 84) (L' := [some (.ref 104), some (w_i s0), some (w_i 1), u3]) (M' := []) rfl rfl rfl rfl rfl ?_
    refine w_goto (t := 9) rfl rfl ?_
    exact k
theorem e175 {xs : Nat → Int32} {xl : Nat} {I J : w_I} {b : Bool} {Q : Option Value → w_I → w_I → Bool → Prop} {a1 : Int} (t : w_T xs xl 175 0 [some (.ref 104), some (w_i a1)] [] [] I J b Q) : w_C xs xl 175 [.ref 104, w_i a1] I J b Q := w_en rfl t
theorem b175_0 {xs : Nat → Int32} {xl : Nat} {I J : w_I} {b : Bool} {Q : Option Value → w_I → w_I → Bool → Prop} {a1 : Int} (k : ((0 ≤ I 104 7 ∧ I 104 7 < 2001) ∧ Q (some (w_i 0)) (w_U (w_U I 104 8 a1) 104 9 (I 107 (I 104 7))) J b)) : w_T xs xl 175 0 [some (.ref 104), some (w_i a1)] [] [] I J b Q := by
  refine w_aload_n (q := 1) rfl rfl rfl ?_
  refine w_iload_n (q := 2) rfl rfl rfl ?_
  refine w_pfi (q := 5) (k' := 8) rfl rfl rfl rfl ?_
  refine w_aload_n (q := 6) rfl rfl rfl ?_
  refine w_aload_n (q := 7) rfl rfl rfl ?_
  refine w_gfr (q := 10) rfl rfl rfl rfl (j := 107) rfl ?_
  refine w_aload_n (q := 11) rfl rfl rfl ?_
  refine w_gfi (q := 14) (k' := 7) (v := I 104 7) rfl rfl rfl rfl rfl rfl rfl ?_
  obtain ⟨h1, k⟩ := k
  refine w_iald (q := 15) (n := 2001) (v := I 107 (I 104 7)) rfl rfl rfl rfl rfl rfl h1 ?_
  refine w_pfi (q := 18) (k' := 9) rfl rfl rfl rfl ?_
  refine w_iconst (q := 19) rfl rfl ?_
  refine w_iret rfl rfl k
theorem e176 {xs : Nat → Int32} {xl : Nat} {I J : w_I} {b : Bool} {Q : Option Value → w_I → w_I → Bool → Prop} {a1 a2 : Int} (t : w_T xs xl 176 0 [some (.ref 104), some (w_i a1), some (w_i a2), none] [] [] I J b Q) : w_C xs xl 176 [.ref 104, w_i a1, w_i a2] I J b Q := w_en rfl t
theorem b176_0 {xs : Nat → Int32} {xl : Nat} {I J : w_I} {b : Bool} {Q : Option Value → w_I → w_I → Bool → Prop} {a1 a2 : Int} (k : ((0 ≤ a2 ∧ a2 < 2001) ∧ ((-2147483648 ≤ I 104 10 ∧ I 104 10 < 2147483648) ∧ ((I 104 10 = 0 → Q none (w_U (w_U I 104 10 a1) 104 11 (I 107 a2)) J b) ∧ (¬ I 104 10 = 0 → ((-2147483648 ≤ I 107 a2 ∧ I 107 a2 < 2147483648) ∧ (-2147483648 ≤ I 104 11 ∧ I 104 11 < 2147483648) ∧ ((I 104 11 < I 107 a2 → Q none I J b) ∧ (¬ I 104 11 < I 107 a2 → ((¬ I 107 a2 = I 104 11 → Q none (w_U (w_U I 104 10 a1) 104 11 (I 107 a2)) J b) ∧ (I 107 a2 = I 104 11 → ((-2147483648 ≤ a1 ∧ a1 < 2147483648) ∧ ((a1 < I 104 10 → Q none (w_U (w_U I 104 10 a1) 104 11 (I 107 a2)) J b) ∧ (¬ a1 < I 104 10 → Q none I J b))))))))))))) : w_T xs xl 176 0 [some (.ref 104), some (w_i a1), some (w_i a2), none] [] [] I J b Q := by
  refine w_aload_n (q := 1) rfl rfl rfl ?_
  refine w_gfr (q := 4) rfl rfl rfl rfl (j := 107) rfl ?_
  refine w_iload_n (q := 5) rfl rfl rfl ?_
  obtain ⟨h1, k⟩ := k
  refine w_iald (q := 6) (n := 2001) (v := I 107 a2) rfl rfl rfl rfl rfl rfl h1 ?_
  refine w_istore_n (q := 7) (L' := [some (.ref 104), some (w_i a1), some (w_i a2), some (w_i (I 107 a2))]) (M' := []) rfl rfl rfl rfl rfl ?_
  refine w_aload_n (q := 8) rfl rfl rfl ?_
  refine w_gfi (q := 11) (k' := 10) (v := I 104 10) rfl rfl rfl rfl rfl rfl rfl ?_
  obtain ⟨h2, k⟩ := k
  refine w_zeq (t := 39) (q := 14) rfl rfl rfl h2 (fun c3 => ?_) (fun c3 => ?_)
  · replace k := k.1 c3
    refine w_aload_n (q := 40) rfl rfl rfl ?_
    refine w_iload_n (q := 41) rfl rfl rfl ?_
    refine w_pfi (q := 44) (k' := 10) rfl rfl rfl rfl ?_
    refine w_aload_n (q := 45) rfl rfl rfl ?_
    refine w_iload_n (q := 46) rfl rfl rfl ?_
    refine w_pfi (q := 49) (k' := 11) rfl rfl rfl rfl ?_
    exact w_vret rfl k
  · replace k := k.2 c3
    refine w_iload_n (q := 15) rfl rfl rfl ?_
    refine w_aload_n (q := 16) rfl rfl rfl ?_
    refine w_gfi (q := 19) (k' := 11) (v := I 104 11) rfl rfl rfl rfl rfl rfl rfl ?_
    obtain ⟨h4, h5, k⟩ := k
    refine w_cgt (t := 38) (q := 22) rfl rfl rfl h4 h5 (fun c6 => ?_) (fun c6 => ?_)
    · replace k := k.1 c6
      exact w_vret rfl k
    · replace k := k.2 c6
      refine w_iload_n (q := 23) rfl rfl rfl ?_
      refine w_aload_n (q := 24) rfl rfl rfl ?_
      refine w_gfi (q := 27) (k' := 11) (v := I 104 11) rfl rfl rfl rfl rfl rfl rfl ?_
      refine w_cne (t := 39) (q := 30) rfl rfl rfl h4 h5 (fun c7 => ?_) (fun c7 => ?_)
      · replace k := k.1 c7
        refine w_aload_n (q := 40) rfl rfl rfl ?_
        refine w_iload_n (q := 41) rfl rfl rfl ?_
        refine w_pfi (q := 44) (k' := 10) rfl rfl rfl rfl ?_
        refine w_aload_n (q := 45) rfl rfl rfl ?_
        refine w_iload_n (q := 46) rfl rfl rfl ?_
        refine w_pfi (q := 49) (k' := 11) rfl rfl rfl rfl ?_
        exact w_vret rfl k
      · replace k := k.2 c7
        refine w_iload_n (q := 31) rfl rfl rfl ?_
        refine w_aload_n (q := 32) rfl rfl rfl ?_
        refine w_gfi (q := 35) (k' := 10) (v := I 104 10) rfl rfl rfl rfl rfl rfl rfl ?_
        obtain ⟨h8, k⟩ := k
        refine w_clt (t := 39) (q := 38) rfl rfl rfl h8 h2 (fun c9 => ?_) (fun c9 => ?_)
        · replace k := k.1 c9
          refine w_aload_n (q := 40) rfl rfl rfl ?_
          refine w_iload_n (q := 41) rfl rfl rfl ?_
          refine w_pfi (q := 44) (k' := 10) rfl rfl rfl rfl ?_
          refine w_aload_n (q := 45) rfl rfl rfl ?_
          refine w_iload_n (q := 46) rfl rfl rfl ?_
          refine w_pfi (q := 49) (k' := 11) rfl rfl rfl rfl ?_
          exact w_vret rfl k
        · replace k := k.2 c9
          exact w_vret rfl k
theorem e177 {xs : Nat → Int32} {xl : Nat} {I J : w_I} {b : Bool} {Q : Option Value → w_I → w_I → Bool → Prop} (t : w_T xs xl 177 0 [some (.ref 104)] [] [] I J b Q) : w_C xs xl 177 [.ref 104] I J b Q := w_en rfl t
theorem b177_0 {xs : Nat → Int32} {xl : Nat} {I J : w_I} {b : Bool} {Q : Option Value → w_I → w_I → Bool → Prop} (k : ((-2147483648 ≤ I 104 7 ∧ I 104 7 < 2147483648) ∧ ((I 104 7 < 400 → Q (some (w_i 1)) (w_U I 104 7 (I 104 7 + 1)) J b) ∧ (¬ I 104 7 < 400 → w_C xs xl 175 [.ref 104, w_i 2] I J b (fun v Ic Jc bc => w_T xs xl 177 15 [some (.ref 104)] [] (w_pv v []) Ic Jc bc Q))))) : w_T xs xl 177 0 [some (.ref 104)] [] [] I J b Q := by
  refine w_aload_n (q := 1) rfl rfl rfl ?_
  refine w_gfi (q := 4) (k' := 7) (v := I 104 7) rfl rfl rfl rfl rfl rfl rfl ?_
  refine w_sipush (q := 7) rfl rfl rfl ?_
  obtain ⟨h1, k⟩ := k
  refine w_clt (t := 16) (q := 10) rfl rfl rfl h1 (by decide) (fun c2 => ?_) (fun c2 => ?_)
  · replace k := k.1 c2
    refine w_aload_n (q := 17) rfl rfl rfl ?_
    refine w_dup (q := 18) rfl rfl rfl ?_
    refine w_gfi (q := 21) (k' := 7) (v := I 104 7) rfl rfl rfl rfl rfl rfl rfl ?_
    refine w_iconst (q := 22) rfl rfl ?_
    refine w_iadd (q := 23) rfl rfl ?_
    refine w_pfi (q := 26) (k' := 7) rfl rfl rfl rfl ?_
    refine w_iconst (q := 27) rfl rfl ?_
    refine w_iret rfl rfl k
  · replace k := k.2 c2
    refine w_aload_n (q := 11) rfl rfl rfl ?_
    refine w_iconst (q := 12) rfl rfl ?_
    refine w_callv (q := 15) rfl rfl rfl rfl rfl rfl ?_
    exact k
theorem b177_15 {xs : Nat → Int32} {xl : Nat} {I J : w_I} {b : Bool} {Q : Option Value → w_I → w_I → Bool → Prop} {s0 : Int} (k : ((s0 = 0 ∨ s0 = 1) ∧ Q (some (w_i s0)) I J b)) : w_T xs xl 177 15 [some (.ref 104)] [] [w_i s0] I J b Q := by
  obtain ⟨h1, k⟩ := k
  refine w_iret rfl (w_nz1 h1) k
theorem e178 {xs : Nat → Int32} {xl : Nat} {I J : w_I} {b : Bool} {Q : Option Value → w_I → w_I → Bool → Prop} {a1 : Int} (t : w_T xs xl 178 0 [some (.ref 104), some (w_i a1)] [] [] I J b Q) : w_C xs xl 178 [.ref 104, w_i a1] I J b Q := w_en rfl t
theorem b178_0 {xs : Nat → Int32} {xl : Nat} {I J : w_I} {b : Bool} {Q : Option Value → w_I → w_I → Bool → Prop} {a1 : Int} (k : ((0 ≤ I 104 7 ∧ I 104 7 < 2001) ∧ ((-2147483648 ≤ I 106 (I 104 7) ∧ I 106 (I 104 7) < 2147483648) ∧ ((¬ I 106 (I 104 7) = 2 → Q (some (w_i 0)) I J b) ∧ (I 106 (I 104 7) = 2 → ((-2147483648 ≤ I 108 (I 104 7) ∧ I 108 (I 104 7) < 2147483648) ∧ (-2147483648 ≤ a1 ∧ a1 < 2147483648) ∧ ((¬ I 108 (I 104 7) = a1 → Q (some (w_i 0)) I J b) ∧ (I 108 (I 104 7) = a1 → Q (some (w_i 1)) I J b)))))))) : w_T xs xl 178 0 [some (.ref 104), some (w_i a1)] [] [] I J b Q := by
  refine w_aload_n (q := 1) rfl rfl rfl ?_
  refine w_gfr (q := 4) rfl rfl rfl rfl (j := 106) rfl ?_
  refine w_aload_n (q := 5) rfl rfl rfl ?_
  refine w_gfi (q := 8) (k' := 7) (v := I 104 7) rfl rfl rfl rfl rfl rfl rfl ?_
  obtain ⟨h1, k⟩ := k
  refine w_iald (q := 9) (n := 2001) (v := I 106 (I 104 7)) rfl rfl rfl rfl rfl rfl h1 ?_
  refine w_iconst (q := 10) rfl rfl ?_
  obtain ⟨h2, k⟩ := k
  refine w_cne (t := 30) (q := 13) rfl rfl rfl h2 (by decide) (fun c3 => ?_) (fun c3 => ?_)
  · replace k := k.1 c3
    refine w_iconst (q := 31) rfl rfl ?_
    refine w_iret rfl rfl k
  · replace k := k.2 c3
    refine w_aload_n (q := 14) rfl rfl rfl ?_
    refine w_gfr (q := 17) rfl rfl rfl rfl (j := 108) rfl ?_
    refine w_aload_n (q := 18) rfl rfl rfl ?_
    refine w_gfi (q := 21) (k' := 7) (v := I 104 7) rfl rfl rfl rfl rfl rfl rfl ?_
    refine w_iald (q := 22) (n := 2001) (v := I 108 (I 104 7)) rfl rfl rfl rfl rfl rfl h1 ?_
    refine w_iload_n (q := 23) rfl rfl rfl ?_
    obtain ⟨h4, h5, k⟩ := k
    refine w_cne (t := 30) (q := 26) rfl rfl rfl h4 h5 (fun c6 => ?_) (fun c6 => ?_)
    · replace k := k.1 c6
      refine w_iconst (q := 31) rfl rfl ?_
      refine w_iret rfl rfl k
    · replace k := k.2 c6
      refine w_iconst (q := 27) rfl rfl ?_
      refine w_goto (t := 31) rfl rfl ?_
      refine w_iret rfl rfl k
theorem e179 {xs : Nat → Int32} {xl : Nat} {I J : w_I} {b : Bool} {Q : Option Value → w_I → w_I → Bool → Prop} {a1 : Int} (t : w_T xs xl 179 0 [some (.ref 104), some (w_i a1)] [] [] I J b Q) : w_C xs xl 179 [.ref 104, w_i a1] I J b Q := w_en rfl t
theorem b179_0 {xs : Nat → Int32} {xl : Nat} {I J : w_I} {b : Bool} {Q : Option Value → w_I → w_I → Bool → Prop} {a1 : Int} (k : ((0 ≤ I 104 7 ∧ I 104 7 < 2001) ∧ ((-2147483648 ≤ I 106 (I 104 7) ∧ I 106 (I 104 7) < 2147483648) ∧ ((¬ I 106 (I 104 7) = 3 → Q (some (w_i 0)) I J b) ∧ (I 106 (I 104 7) = 3 → ((-2147483648 ≤ I 108 (I 104 7) ∧ I 108 (I 104 7) < 2147483648) ∧ (-2147483648 ≤ a1 ∧ a1 < 2147483648) ∧ ((¬ I 108 (I 104 7) = a1 → Q (some (w_i 0)) I J b) ∧ (I 108 (I 104 7) = a1 → Q (some (w_i 1)) I J b)))))))) : w_T xs xl 179 0 [some (.ref 104), some (w_i a1)] [] [] I J b Q := by
  refine w_aload_n (q := 1) rfl rfl rfl ?_
  refine w_gfr (q := 4) rfl rfl rfl rfl (j := 106) rfl ?_
  refine w_aload_n (q := 5) rfl rfl rfl ?_
  refine w_gfi (q := 8) (k' := 7) (v := I 104 7) rfl rfl rfl rfl rfl rfl rfl ?_
  obtain ⟨h1, k⟩ := k
  refine w_iald (q := 9) (n := 2001) (v := I 106 (I 104 7)) rfl rfl rfl rfl rfl rfl h1 ?_
  refine w_iconst (q := 10) rfl rfl ?_
  obtain ⟨h2, k⟩ := k
  refine w_cne (t := 30) (q := 13) rfl rfl rfl h2 (by decide) (fun c3 => ?_) (fun c3 => ?_)
  · replace k := k.1 c3
    refine w_iconst (q := 31) rfl rfl ?_
    refine w_iret rfl rfl k
  · replace k := k.2 c3
    refine w_aload_n (q := 14) rfl rfl rfl ?_
    refine w_gfr (q := 17) rfl rfl rfl rfl (j := 108) rfl ?_
    refine w_aload_n (q := 18) rfl rfl rfl ?_
    refine w_gfi (q := 21) (k' := 7) (v := I 104 7) rfl rfl rfl rfl rfl rfl rfl ?_
    refine w_iald (q := 22) (n := 2001) (v := I 108 (I 104 7)) rfl rfl rfl rfl rfl rfl h1 ?_
    refine w_iload_n (q := 23) rfl rfl rfl ?_
    obtain ⟨h4, h5, k⟩ := k
    refine w_cne (t := 30) (q := 26) rfl rfl rfl h4 h5 (fun c6 => ?_) (fun c6 => ?_)
    · replace k := k.1 c6
      refine w_iconst (q := 31) rfl rfl ?_
      refine w_iret rfl rfl k
    · replace k := k.2 c6
      refine w_iconst (q := 27) rfl rfl ?_
      refine w_goto (t := 31) rfl rfl ?_
      refine w_iret rfl rfl k
theorem e180 {xs : Nat → Int32} {xl : Nat} {I J : w_I} {b : Bool} {Q : Option Value → w_I → w_I → Bool → Prop} {a1 : Int} (t : w_T xs xl 180 0 [some (.ref 104), some (w_i a1)] [] [] I J b Q) : w_C xs xl 180 [.ref 104, w_i a1] I J b Q := w_en rfl t
theorem b180_0 {xs : Nat → Int32} {xl : Nat} {I J : w_I} {b : Bool} {Q : Option Value → w_I → w_I → Bool → Prop} {a1 : Int} (k : ((0 ≤ I 104 7 ∧ I 104 7 < 2001) ∧ ((-2147483648 ≤ I 106 (I 104 7) ∧ I 106 (I 104 7) < 2147483648) ∧ (-2147483648 ≤ a1 ∧ a1 < 2147483648) ∧ ((¬ I 106 (I 104 7) = a1 → w_C xs xl 175 [.ref 104, w_i 1] I J b (fun v Ic Jc bc => w_T xs xl 180 25 [some (.ref 104), some (w_i a1)] [] (w_pv v []) Ic Jc bc Q)) ∧ (I 106 (I 104 7) = a1 → w_C xs xl 177 [.ref 104] I J b (fun v Ic Jc bc => w_T xs xl 180 17 [some (.ref 104), some (w_i a1)] [] (w_pv v []) Ic Jc bc Q)))))) : w_T xs xl 180 0 [some (.ref 104), some (w_i a1)] [] [] I J b Q := by
  refine w_aload_n (q := 1) rfl rfl rfl ?_
  refine w_gfr (q := 4) rfl rfl rfl rfl (j := 106) rfl ?_
  refine w_aload_n (q := 5) rfl rfl rfl ?_
  refine w_gfi (q := 8) (k' := 7) (v := I 104 7) rfl rfl rfl rfl rfl rfl rfl ?_
  obtain ⟨h1, k⟩ := k
  refine w_iald (q := 9) (n := 2001) (v := I 106 (I 104 7)) rfl rfl rfl rfl rfl rfl h1 ?_
  refine w_iload_n (q := 10) rfl rfl rfl ?_
  obtain ⟨h2, h3, k⟩ := k
  refine w_cne (t := 20) (q := 13) rfl rfl rfl h2 h3 (fun c4 => ?_) (fun c4 => ?_)
  · replace k := k.1 c4
    refine w_aload_n (q := 21) rfl rfl rfl ?_
    refine w_iconst (q := 22) rfl rfl ?_
    refine w_callv (q := 25) rfl rfl rfl rfl rfl rfl ?_
    exact k
  · replace k := k.2 c4
    refine w_aload_n (q := 14) rfl rfl rfl ?_
    refine w_callv (q := 17) rfl rfl rfl rfl rfl rfl ?_
    exact k
theorem b180_25 {xs : Nat → Int32} {xl : Nat} {I J : w_I} {b : Bool} {Q : Option Value → w_I → w_I → Bool → Prop} {u1 : Option Value} {s0 : Int} (k : ((s0 = 0 ∨ s0 = 1) ∧ Q (some (w_i s0)) I J b)) : w_T xs xl 180 25 [some (.ref 104), u1] [] [w_i s0] I J b Q := by
  obtain ⟨h1, k⟩ := k
  refine w_iret rfl (w_nz1 h1) k
theorem b180_17 {xs : Nat → Int32} {xl : Nat} {I J : w_I} {b : Bool} {Q : Option Value → w_I → w_I → Bool → Prop} {u1 : Option Value} {s0 : Int} (k : ((s0 = 0 ∨ s0 = 1) ∧ Q (some (w_i s0)) I J b)) : w_T xs xl 180 17 [some (.ref 104), u1] [] [w_i s0] I J b Q := by
  refine w_goto (t := 25) rfl rfl ?_
  obtain ⟨h1, k⟩ := k
  refine w_iret rfl (w_nz1 h1) k
theorem e181 {xs : Nat → Int32} {xl : Nat} {I J : w_I} {b : Bool} {Q : Option Value → w_I → w_I → Bool → Prop} {a1 a2 : Int} (t : w_T xs xl 181 0 [some (.ref 104), some (w_i a1), some (w_i a2), none] [] [] I J b Q) : w_C xs xl 181 [.ref 104, w_i a1, w_i a2] I J b Q := w_en rfl t
theorem b181_0 {xs : Nat → Int32} {xl : Nat} {I J : w_I} {b : Bool} {Q : Option Value → w_I → w_I → Bool → Prop} {a1 a2 : Int} (k : w_C xs xl 180 [.ref 104, w_i 1] I J b (fun v Ic Jc bc => w_T xs xl 181 10 [some (.ref 104), some (w_i a1), some (w_i a2), some (w_i (I 104 7))] [] (w_pv v []) Ic Jc bc Q)) : w_T xs xl 181 0 [some (.ref 104), some (w_i a1), some (w_i a2), none] [] [] I J b Q := by
  refine w_aload_n (q := 1) rfl rfl rfl ?_
  refine w_gfi (q := 4) (k' := 7) (v := I 104 7) rfl rfl rfl rfl rfl rfl rfl ?_
  refine w_istore_n (q := 5) (L' := [some (.ref 104), some (w_i a1), some (w_i a2), some (w_i (I 104 7))]) (M' := []) rfl rfl rfl rfl rfl ?_
  refine w_aload_n (q := 6) rfl rfl rfl ?_
  refine w_iconst (q := 7) rfl rfl ?_
  refine w_callv (q := 10) rfl rfl rfl rfl rfl rfl ?_
  exact k
theorem b181_10 {xs : Nat → Int32} {xl : Nat} {I J : w_I} {b : Bool} {Q : Option Value → w_I → w_I → Bool → Prop} {l1 l2 l3 s0 : Int} (k : ((-2147483648 ≤ s0 ∧ s0 < 2147483648) ∧ ((¬ s0 = 0 → ((0 ≤ l3 ∧ l3 < 2001) ∧ ((-2147483648 ≤ I 108 l3 ∧ I 108 l3 < 2147483648) ∧ (-2147483648 ≤ l1 ∧ l1 < 2147483648) ∧ ((I 108 l3 < l1 → w_C xs xl 176 [.ref 104, w_i 5, w_i l3] (w_U I 104 25 (I 108 l3)) J b (fun v Ic Jc bc => w_T xs xl 181 47 [some (.ref 104), some (w_i l1), some (w_i l2), some (w_i l3)] [] (w_pv v []) Ic Jc bc Q)) ∧ (¬ I 108 l3 < l1 → ((-2147483648 ≤ l2 ∧ l2 < 2147483648) ∧ ((I 108 l3 ≤ l2 → Q (some (w_i 1)) (w_U I 104 25 (I 108 l3)) J b) ∧ (¬ I 108 l3 ≤ l2 → w_C xs xl 176 [.ref 104, w_i 5, w_i l3] (w_U I 104 25 (I 108 l3)) J b (fun v Ic Jc bc => w_T xs xl 181 47 [some (.ref 104), some (w_i l1), some (w_i l2), some (w_i l3)] [] (w_pv v []) Ic Jc bc Q))))))))) ∧ (s0 = 0 → Q (some (w_i 0)) I J b)))) : w_T xs xl 181 10 [some (.ref 104), some (w_i l1), some (w_i l2), some (w_i l3)] [] [w_i s0] I J b Q := by
  obtain ⟨h1, k⟩ := k
  refine w_zne (t := 15) (q := 13) rfl rfl rfl h1 (fun c2 => ?_) (fun c2 => ?_)
  · replace k := k.1 c2
    refine w_aload_n (q := 16) rfl rfl rfl ?_
    refine w_aload_n (q := 17) rfl rfl rfl ?_
    refine w_gfr (q := 20) rfl rfl rfl rfl (j := 108) rfl ?_
    refine w_iload_n (q := 21) rfl rfl rfl ?_
    obtain ⟨h3, k⟩ := k
    refine w_iald (q := 22) (n := 2001) (v := I 108 l3) rfl rfl rfl rfl rfl rfl h3 ?_
    refine w_pfi (q := 25) (k' := 25) rfl rfl rfl rfl ?_
    refine w_aload_n (q := 26) rfl rfl rfl ?_
    refine w_gfi (q := 29) (k' := 25) (v := I 108 l3) rfl rfl rfl rfl rfl rfl rfl ?_
    refine w_iload_n (q := 30) rfl rfl rfl ?_
    obtain ⟨h4, h5, k⟩ := k
    refine w_clt (t := 41) (q := 33) rfl rfl rfl h4 h5 (fun c6 => ?_) (fun c6 => ?_)
    · replace k := k.1 c6
      refine w_aload_n (q := 42) rfl rfl rfl ?_
      refine w_iconst (q := 43) rfl rfl ?_
      refine w_iload_n (q := 44) rfl rfl rfl ?_
      refine w_callv (q := 47) rfl rfl rfl rfl rfl rfl ?_
      exact k
    · replace k := k.2 c6
      refine w_aload_n (q := 34) rfl rfl rfl ?_
      refine w_gfi (q := 37) (k' := 25) (v := I 108 l3) rfl rfl rfl rfl rfl rfl rfl ?_
      refine w_iload_n (q := 38) rfl rfl rfl ?_
      obtain ⟨h7, k⟩ := k
      refine w_cle (t := 47) (q := 41) rfl rfl rfl h4 h7 (fun c8 => ?_) (fun c8 => ?_)
      · replace k := k.1 c8
        refine w_iconst (q := 48) rfl rfl ?_
        refine w_iret rfl rfl k
      · replace k := k.2 c8
        refine w_aload_n (q := 42) rfl rfl rfl ?_
        refine w_iconst (q := 43) rfl rfl ?_
        refine w_iload_n (q := 44) rfl rfl rfl ?_
        refine w_callv (q := 47) rfl rfl rfl rfl rfl rfl ?_
        exact k
  · replace k := k.2 c2
    refine w_iconst (q := 14) rfl rfl ?_
    refine w_iret rfl rfl k
theorem b181_47 {xs : Nat → Int32} {xl : Nat} {I J : w_I} {b : Bool} {Q : Option Value → w_I → w_I → Bool → Prop} {u1 u2 u3 : Option Value} (k : Q (some (w_i 1)) I J b) : w_T xs xl 181 47 [some (.ref 104), u1, u2, u3] [] [] I J b Q := by
  refine w_iconst (q := 48) rfl rfl ?_
  refine w_iret rfl rfl k
theorem e182 {xs : Nat → Int32} {xl : Nat} {I J : w_I} {b : Bool} {Q : Option Value → w_I → w_I → Bool → Prop} {a1 a2 : Int} (t : w_T xs xl 182 0 [some (.ref 104), some (w_i a1), some (w_i a2)] [] [] I J b Q) : w_C xs xl 182 [.ref 104, w_i a1, w_i a2] I J b Q := w_en rfl t
theorem b182_0 {xs : Nat → Int32} {xl : Nat} {I J : w_I} {b : Bool} {Q : Option Value → w_I → w_I → Bool → Prop} {a1 a2 : Int} (k : ((0 ≤ 500 + I 111 1 ∧ 500 + I 111 1 < 2000) ∧ Q none (w_U (w_U (w_U I 112 (500 + I 111 1) a1) 113 (500 + I 111 1) a2) 111 1 (I 111 1 + 1)) J b)) : w_T xs xl 182 0 [some (.ref 104), some (w_i a1), some (w_i a2)] [] [] I J b Q := by
  refine w_aload_n (q := 1) rfl rfl rfl ?_
  refine w_gfr (q := 4) rfl rfl rfl rfl (j := 112) rfl ?_
  refine w_sipush (q := 7) rfl rfl rfl ?_
  refine w_aload_n (q := 8) rfl rfl rfl ?_
  refine w_gfr (q := 11) rfl rfl rfl rfl (j := 111) rfl ?_
  refine w_iconst (q := 12) rfl rfl ?_
  refine w_iald (q := 13) (n := 4) (v := I 111 1) rfl rfl rfl rfl rfl rfl (by decide) ?_
  refine w_iadd (q := 14) rfl rfl ?_
  refine w_iload_n (q := 15) rfl rfl rfl ?_
  obtain ⟨h1, k⟩ := k
  refine w_iast (q := 16) (n := 2000) rfl rfl rfl rfl rfl h1 ?_
  refine w_aload_n (q := 17) rfl rfl rfl ?_
  refine w_gfr (q := 20) rfl rfl rfl rfl (j := 113) rfl ?_
  refine w_sipush (q := 23) rfl rfl rfl ?_
  refine w_aload_n (q := 24) rfl rfl rfl ?_
  refine w_gfr (q := 27) rfl rfl rfl rfl (j := 111) rfl ?_
  refine w_iconst (q := 28) rfl rfl ?_
  refine w_iald (q := 29) (n := 4) (v := I 111 1) rfl rfl rfl rfl rfl rfl (by decide) ?_
  refine w_iadd (q := 30) rfl rfl ?_
  refine w_iload_n (q := 31) rfl rfl rfl ?_
  refine w_iast (q := 32) (n := 2000) rfl rfl rfl rfl rfl h1 ?_
  refine w_aload_n (q := 33) rfl rfl rfl ?_
  refine w_gfr (q := 36) rfl rfl rfl rfl (j := 111) rfl ?_
  refine w_iconst (q := 37) rfl rfl ?_
  refine w_dup2 (q := 38) rfl rfl rfl rfl ?_
  refine w_iald (q := 39) (n := 4) (v := I 111 1) rfl rfl rfl rfl rfl rfl (by decide) ?_
  refine w_iconst (q := 40) rfl rfl ?_
  refine w_iadd (q := 41) rfl rfl ?_
  refine w_iast (q := 42) (n := 4) rfl rfl rfl rfl rfl (by decide) ?_
  exact w_vret rfl k
theorem e183 {xs : Nat → Int32} {xl : Nat} {I J : w_I} {b : Bool} {Q : Option Value → w_I → w_I → Bool → Prop} {a0 : Int} (t : w_T xs xl 183 0 [some (w_i a0)] [] [] I J b Q) : w_C xs xl 183 [w_i a0] I J b Q := w_en rfl t
theorem b183_0 {xs : Nat → Int32} {xl : Nat} {I J : w_I} {b : Bool} {Q : Option Value → w_I → w_I → Bool → Prop} {a0 : Int} (k : ((-2147483648 ≤ a0 ∧ a0 < 2147483648) ∧ ((a0 ≤ 3 → ((a0 ≤ 1 → Q (some (w_i 0)) I J b) ∧ (¬ a0 ≤ 1 → Q (some (w_i 1)) I J b))) ∧ (¬ a0 ≤ 3 → Q (some (w_i 2)) I J b)))) : w_T xs xl 183 0 [some (w_i a0)] [] [] I J b Q := by
  refine w_iload_n (q := 1) rfl rfl rfl ?_
  refine w_iconst (q := 2) rfl rfl ?_
  obtain ⟨h1, k⟩ := k
  refine w_cle (t := 9) (q := 5) rfl rfl rfl h1 (by decide) (fun c2 => ?_) (fun c2 => ?_)
  · replace k := k.1 c2
    refine w_iload_n (q := 10) rfl rfl rfl ?_
    refine w_iconst (q := 11) rfl rfl ?_
    refine w_cle (t := 18) (q := 14) rfl rfl rfl h1 (by decide) (fun c3 => ?_) (fun c3 => ?_)
    · replace k := k.1 c3
      refine w_iconst (q := 19) rfl rfl ?_
      exact w_iret rfl rfl k
    · replace k := k.2 c3
      refine w_iconst (q := 15) rfl rfl ?_
      refine w_goto (t := 19) rfl rfl ?_
      exact w_iret rfl rfl k
  · replace k := k.2 c2
    refine w_iconst (q := 6) rfl rfl ?_
    refine w_goto (t := 19) rfl rfl ?_
    exact w_iret rfl rfl k
theorem e184 {xs : Nat → Int32} {xl : Nat} {I J : w_I} {b : Bool} {Q : Option Value → w_I → w_I → Bool → Prop} {a1 a2 : Int} (t : w_T xs xl 184 0 [some (.ref 104), some (w_i a1), some (w_i a2)] [] [] I J b Q) : w_C xs xl 184 [.ref 104, w_i a1, w_i a2] I J b Q := w_en rfl t
theorem b184_0 {xs : Nat → Int32} {xl : Nat} {I J : w_I} {b : Bool} {Q : Option Value → w_I → w_I → Bool → Prop} {a1 a2 : Int} (k : ((-2147483648 ≤ I 104 26 ∧ I 104 26 < 2147483648) ∧ (-2147483648 ≤ a2 ∧ a2 < 2147483648) ∧ ((I 104 26 ≤ a2 → Q none I J b) ∧ (¬ I 104 26 ≤ a2 → ((0 ≤ I 104 26 - 1 ∧ I 104 26 - 1 < 500) ∧ w_C xs xl 183 [w_i (I 123 (I 104 26 - 1))] I J b (fun v Ic Jc bc => w_T xs xl 184 22 [some (.ref 104), some (w_i a1), some (w_i a2)] [] (w_pv v []) Ic Jc bc Q)))))) : w_T xs xl 184 0 [some (.ref 104), some (w_i a1), some (w_i a2)] [] [] I J b Q := by
  refine w_aload_n (q := 1) rfl rfl rfl ?_
  refine w_gfi (q := 4) (k' := 26) (v := I 104 26) rfl rfl rfl rfl rfl rfl rfl ?_
  refine w_iload_n (q := 5) rfl rfl rfl ?_
  obtain ⟨h1, h2, k⟩ := k
  refine w_cle (t := 53) (q := 8) rfl rfl rfl h1 h2 (fun c3 => ?_) (fun c3 => ?_)
  · replace k := k.1 c3
    exact w_vret rfl k
  · replace k := k.2 c3
    refine w_aload_n (q := 9) rfl rfl rfl ?_
    refine w_gfr (q := 12) rfl rfl rfl rfl (j := 123) rfl ?_
    refine w_aload_n (q := 13) rfl rfl rfl ?_
    refine w_gfi (q := 16) (k' := 26) (v := I 104 26) rfl rfl rfl rfl rfl rfl rfl ?_
    refine w_iconst (q := 17) rfl rfl ?_
    refine w_isub (q := 18) rfl rfl ?_
    obtain ⟨h4, k⟩ := k
    refine w_iald (q := 19) (n := 500) (v := I 123 (I 104 26 - 1)) rfl rfl rfl rfl rfl rfl h4 ?_
    refine w_call (q := 22) rfl rfl rfl rfl rfl ?_
    exact k
theorem b184_22 {xs : Nat → Int32} {xl : Nat} {I J : w_I} {b : Bool} {Q : Option Value → w_I → w_I → Bool → Prop} {l1 l2 s0 : Int} (k : ((-2147483648 ≤ s0 ∧ s0 < 2147483648) ∧ (-2147483648 ≤ l1 ∧ l1 < 2147483648) ∧ ((s0 < l1 → Q none I J b) ∧ (¬ s0 < l1 → ((0 ≤ I 104 26 - 1 ∧ I 104 26 - 1 < 500) ∧ w_C xs xl 182 [.ref 104, w_i (I 123 (I 104 26 - 1)), w_i 0] (w_U I 104 26 (I 104 26 - 1)) J b (fun v Ic Jc bc => w_T xs xl 184 50 [some (.ref 104), some (w_i l1), some (w_i l2)] [] (w_pv v []) Ic Jc bc Q)))))) : w_T xs xl 184 22 [some (.ref 104), some (w_i l1), some (w_i l2)] [] [w_i s0] I J b Q := by
  refine w_iload_n (q := 23) rfl rfl rfl ?_
  obtain ⟨h1, h2, k⟩ := k
  refine w_clt (t := 53) (q := 26) rfl rfl rfl h1 h2 (fun c3 => ?_) (fun c3 => ?_)
  · replace k := k.1 c3
    exact w_vret rfl k
  · replace k := k.2 c3
    refine w_aload_n (q := 27) rfl rfl rfl ?_
    refine w_dup (q := 28) rfl rfl rfl ?_
    refine w_gfi (q := 31) (k' := 26) (v := I 104 26) rfl rfl rfl rfl rfl rfl rfl ?_
    refine w_iconst (q := 32) rfl rfl ?_
    refine w_isub (q := 33) rfl rfl ?_
    refine w_pfi (q := 36) (k' := 26) rfl rfl rfl rfl ?_
    refine w_aload_n (q := 37) rfl rfl rfl ?_
    refine w_aload_n (q := 38) rfl rfl rfl ?_
    refine w_gfr (q := 41) rfl rfl rfl rfl (j := 123) rfl ?_
    refine w_aload_n (q := 42) rfl rfl rfl ?_
    refine w_gfi (q := 45) (k' := 26) (v := I 104 26 - 1) rfl rfl rfl rfl rfl rfl rfl ?_
    obtain ⟨h4, k⟩ := k
    refine w_iald (q := 46) (n := 500) (v := I 123 (I 104 26 - 1)) rfl rfl rfl rfl rfl rfl h4 ?_
    refine w_iconst (q := 47) rfl rfl ?_
    refine w_callv (q := 50) rfl rfl rfl rfl rfl rfl ?_
    exact k
theorem b184_50 {xs : Nat → Int32} {xl : Nat} {I J : w_I} {b : Bool} {Q : Option Value → w_I → w_I → Bool → Prop} {l1 l2 : Int} (k : w_T xs xl 184 0 [some (.ref 104), some (w_i l1), some (w_i l2)] [] [] I J b Q) : w_T xs xl 184 50 [some (.ref 104), some (w_i l1), some (w_i l2)] [] [] I J b Q := by
  refine w_goto (t := 0) rfl rfl ?_
  exact k
theorem b184_0a {xs : Nat → Int32} {xl : Nat} {I J : w_I} {b : Bool} {Q : Option Value → w_I → w_I → Bool → Prop} {l1 l2 : Int} (k : ((-2147483648 ≤ I 104 26 ∧ I 104 26 < 2147483648) ∧ (-2147483648 ≤ l2 ∧ l2 < 2147483648) ∧ ((I 104 26 ≤ l2 → Q none I J b) ∧ (¬ I 104 26 ≤ l2 → ((0 ≤ I 104 26 - 1 ∧ I 104 26 - 1 < 500) ∧ w_C xs xl 183 [w_i (I 123 (I 104 26 - 1))] I J b (fun v Ic Jc bc => w_T xs xl 184 22 [some (.ref 104), some (w_i l1), some (w_i l2)] [] (w_pv v []) Ic Jc bc Q)))))) : w_T xs xl 184 0 [some (.ref 104), some (w_i l1), some (w_i l2)] [] [] I J b Q := by
  refine w_aload_n (q := 1) rfl rfl rfl ?_
  refine w_gfi (q := 4) (k' := 26) (v := I 104 26) rfl rfl rfl rfl rfl rfl rfl ?_
  refine w_iload_n (q := 5) rfl rfl rfl ?_
  obtain ⟨h1, h2, k⟩ := k
  refine w_cle (t := 53) (q := 8) rfl rfl rfl h1 h2 (fun c3 => ?_) (fun c3 => ?_)
  · replace k := k.1 c3
    exact w_vret rfl k
  · replace k := k.2 c3
    refine w_aload_n (q := 9) rfl rfl rfl ?_
    refine w_gfr (q := 12) rfl rfl rfl rfl (j := 123) rfl ?_
    refine w_aload_n (q := 13) rfl rfl rfl ?_
    refine w_gfi (q := 16) (k' := 26) (v := I 104 26) rfl rfl rfl rfl rfl rfl rfl ?_
    refine w_iconst (q := 17) rfl rfl ?_
    refine w_isub (q := 18) rfl rfl ?_
    obtain ⟨h4, k⟩ := k
    refine w_iald (q := 19) (n := 500) (v := I 123 (I 104 26 - 1)) rfl rfl rfl rfl rfl rfl h4 ?_
    refine w_call (q := 22) rfl rfl rfl rfl rfl ?_
    exact k
theorem e185 {xs : Nat → Int32} {xl : Nat} {I J : w_I} {b : Bool} {Q : Option Value → w_I → w_I → Bool → Prop} {a1 : Int} (t : w_T xs xl 185 0 [some (.ref 104), some (w_i a1)] [] [] I J b Q) : w_C xs xl 185 [.ref 104, w_i a1] I J b Q := w_en rfl t
theorem b185_0 {xs : Nat → Int32} {xl : Nat} {I J : w_I} {b : Bool} {Q : Option Value → w_I → w_I → Bool → Prop} {a1 : Int} (k : ((0 ≤ I 104 26 ∧ I 104 26 < 500) ∧ Q none (w_U (w_U I 123 (I 104 26) a1) 104 26 (I 104 26 + 1)) J b)) : w_T xs xl 185 0 [some (.ref 104), some (w_i a1)] [] [] I J b Q := by
  refine w_aload_n (q := 1) rfl rfl rfl ?_
  refine w_gfr (q := 4) rfl rfl rfl rfl (j := 123) rfl ?_
  refine w_aload_n (q := 5) rfl rfl rfl ?_
  refine w_gfi (q := 8) (k' := 26) (v := I 104 26) rfl rfl rfl rfl rfl rfl rfl ?_
  refine w_iload_n (q := 9) rfl rfl rfl ?_
  obtain ⟨h1, k⟩ := k
  refine w_iast (q := 10) (n := 500) rfl rfl rfl rfl rfl h1 ?_
  refine w_aload_n (q := 11) rfl rfl rfl ?_
  refine w_dup (q := 12) rfl rfl rfl ?_
  refine w_gfi (q := 15) (k' := 26) (v := I 104 26) rfl rfl rfl rfl rfl rfl rfl ?_
  refine w_iconst (q := 16) rfl rfl ?_
  refine w_iadd (q := 17) rfl rfl ?_
  refine w_pfi (q := 20) (k' := 26) rfl rfl rfl rfl ?_
  exact w_vret rfl k
theorem e186 {xs : Nat → Int32} {xl : Nat} {I J : w_I} {b : Bool} {Q : Option Value → w_I → w_I → Bool → Prop} {a0 : Int} (t : w_T xs xl 186 0 [some (w_i a0)] [] [] I J b Q) : w_C xs xl 186 [w_i a0] I J b Q := w_en rfl t
theorem b186_0 {xs : Nat → Int32} {xl : Nat} {I J : w_I} {b : Bool} {Q : Option Value → w_I → w_I → Bool → Prop} {a0 : Int} (k : ((-2147483648 ≤ a0 ∧ a0 < 2147483648) ∧ ((a0 ≤ 12 → Q (some (w_i (-1))) I J b) ∧ (¬ a0 ≤ 12 → ((23 ≤ a0 → Q (some (w_i (-1))) I J b) ∧ (¬ 23 ≤ a0 → Q (some (w_i (a0 - 13))) I J b)))))) : w_T xs xl 186 0 [some (w_i a0)] [] [] I J b Q := by
  refine w_iload_n (q := 1) rfl rfl rfl ?_
  refine w_bipush (q := 3) rfl rfl rfl ?_
  obtain ⟨h1, k⟩ := k
  refine w_cle (t := 19) (q := 6) rfl rfl rfl h1 (by decide) (fun c2 => ?_) (fun c2 => ?_)
  · replace k := k.1 c2
    refine w_iconst (q := 20) rfl rfl ?_
    exact w_iret rfl rfl k
  · replace k := k.2 c2
    refine w_iload_n (q := 7) rfl rfl rfl ?_
    refine w_bipush (q := 9) rfl rfl rfl ?_
    refine w_cge (t := 19) (q := 12) rfl rfl rfl h1 (by decide) (fun c3 => ?_) (fun c3 => ?_)
    · replace k := k.1 c3
      refine w_iconst (q := 20) rfl rfl ?_
      exact w_iret rfl rfl k
    · replace k := k.2 c3
      refine w_iload_n (q := 13) rfl rfl rfl ?_
      refine w_bipush (q := 15) rfl rfl rfl ?_
      refine w_isub (q := 16) rfl rfl ?_
      refine w_goto (t := 20) rfl rfl ?_
      exact w_iret rfl rfl k
theorem e187 {xs : Nat → Int32} {xl : Nat} {I J : w_I} {b : Bool} {Q : Option Value → w_I → w_I → Bool → Prop} (t : w_T xs xl 187 0 [some (.ref 104), none, none, none, none] [] [] I J b Q) : w_C xs xl 187 [.ref 104] I J b Q := w_en rfl t
theorem b187_0 {xs : Nat → Int32} {xl : Nat} {I J : w_I} {b : Bool} {Q : Option Value → w_I → w_I → Bool → Prop} (k : w_T xs xl 187 21 [some (.ref 104), some (w_i 0), some (w_i 1), some (w_i 1), none] [] [] (w_U (w_U I 104 28 (I 111 1)) 104 26 0) J b Q) : w_T xs xl 187 0 [some (.ref 104), none, none, none, none] [] [] I J b Q := by
  refine w_aload_n (q := 1) rfl rfl rfl ?_
  refine w_aload_n (q := 2) rfl rfl rfl ?_
  refine w_gfr (q := 5) rfl rfl rfl rfl (j := 111) rfl ?_
  refine w_iconst (q := 6) rfl rfl ?_
  refine w_iald (q := 7) (n := 4) (v := I 111 1) rfl rfl rfl rfl rfl rfl (by decide) ?_
  refine w_pfi (q := 10) (k' := 28) rfl rfl rfl rfl ?_
  refine w_aload_n (q := 11) rfl rfl rfl ?_
  refine w_iconst (q := 12) rfl rfl ?_
  refine w_pfi (q := 15) (k' := 26) rfl rfl rfl rfl ?_
  refine w_iconst (q := 16) rfl rfl ?_
  refine w_istore_n (q := 17) (L' := [some (.ref 104), some (w_i 0), none, none, none]) (M' := []) rfl rfl rfl rfl rfl ?_
  refine w_iconst (q := 18) rfl rfl ?_
  refine w_istore_n (q := 19) (L' := [some (.ref 104), some (w_i 0), some (w_i 1), none, none]) (M' := []) rfl rfl rfl rfl rfl ?_
  refine w_iconst (q := 20) rfl rfl ?_
  refine w_istore_n (q := 21) (L' := [some (.ref 104), some (w_i 0), some (w_i 1), some (w_i 1), none]) (M' := []) rfl rfl rfl rfl rfl ?_
  exact k
theorem b187_21 {xs : Nat → Int32} {xl : Nat} {I J : w_I} {b : Bool} {Q : Option Value → w_I → w_I → Bool → Prop} {l1 l2 l3 : Int} {u4 : Option Value} (k : ((-2147483648 ≤ l3 ∧ l3 < 2147483648) ∧ ((l3 = 0 → w_C xs xl 184 [.ref 104, w_i 1, w_i 0] I J b (fun v Ic Jc bc => w_T xs xl 187 345 [some (.ref 104), some (w_i l1), some (w_i l2), some (w_i l3), u4] [] (w_pv v []) Ic Jc bc Q)) ∧ (¬ l3 = 0 → ((-2147483648 ≤ l2 ∧ l2 < 2147483648) ∧ ((l2 = 0 → w_C xs xl 178 [.ref 104, w_i 42] I J b (fun v Ic Jc bc => w_T xs xl 187 178 [some (.ref 104), some (w_i l1), some (w_i l2), some (w_i l3), u4] [] (w_pv v []) Ic Jc bc Q)) ∧ (¬ l2 = 0 → w_C xs xl 178 [.ref 104, w_i 40] I J b (fun v Ic Jc bc => w_T xs xl 187 35 [some (.ref 104), some (w_i l1), some (w_i l2), some (w_i l3), u4] [] (w_pv v []) Ic Jc bc Q)))))))) : w_T xs xl 187 21 [some (.ref 104), some (w_i l1), some (w_i l2), some (w_i l3), u4] [] [] I J b Q := by
  refine w_iload_n (q := 22) rfl rfl rfl ?_
  obtain ⟨h1, k⟩ := k
  refine w_zeq (t := 339) (q := 25) rfl rfl rfl h1 (fun c2 => ?_) (fun c2 => ?_)
  · replace k := k.1 c2
    refine w_aload_n (q := 340) rfl rfl rfl ?_
    refine w_iconst (q := 341) rfl rfl ?_
    refine w_iconst (q := 342) rfl rfl ?_
    refine w_callv (q := 345) rfl rfl rfl rfl rfl rfl ?_
    exact k
  · replace k := k.2 c2
    refine w_iload_n (q := 26) rfl rfl rfl ?_
    obtain ⟨h3, k⟩ := k
    refine w_zeq (t := 172) (q := 29) rfl rfl rfl h3 (fun c4 => ?_) (fun c4 => ?_)
    · replace k := k.1 c4
      refine w_aload_n (q := 173) rfl rfl rfl ?_
      refine w_bipush (q := 175) rfl rfl rfl ?_
      refine w_callv (q := 178) rfl rfl rfl rfl rfl rfl ?_
      exact k
    · replace k := k.2 c4
      refine w_aload_n (q := 30) rfl rfl rfl ?_
      refine w_bipush (q := 32) rfl rfl rfl ?_
      refine w_callv (q := 35) rfl rfl rfl rfl rfl rfl ?_
      exact k
theorem b187_345 {xs : Nat → Int32} {xl : Nat} {I J : w_I} {b : Bool} {Q : Option Value → w_I → w_I → Bool → Prop} {u1 u2 u3 u4 : Option Value} (k : Q (some (w_i 1)) I J b) : w_T xs xl 187 345 [some (.ref 104), u1, u2, u3, u4] [] [] I J b Q := by
  refine w_iconst (q := 346) rfl rfl ?_
  refine w_iret rfl rfl k
theorem b187_178 {xs : Nat → Int32} {xl : Nat} {I J : w_I} {b : Bool} {Q : Option Value → w_I → w_I → Bool → Prop} {l1 l2 l3 s0 : Int} {u4 : Option Value} (k : ((-2147483648 ≤ s0 ∧ s0 < 2147483648) ∧ ((¬ s0 = 0 → w_C xs xl 184 [.ref 104, w_i 2, w_i 0] I J b (fun v Ic Jc bc => w_T xs xl 187 196 [some (.ref 104), some (w_i l1), some (w_i l2), some (w_i l3), u4] [] (w_pv v []) Ic Jc bc Q)) ∧ (s0 = 0 → w_C xs xl 178 [.ref 104, w_i 47] I J b (fun v Ic Jc bc => w_T xs xl 187 187 [some (.ref 104), some (w_i l1), some (w_i l2), some (w_i l3), u4] [] (w_pv v []) Ic Jc bc Q))))) : w_T xs xl 187 178 [some (.ref 104), some (w_i l1), some (w_i l2), some (w_i l3), u4] [] [w_i s0] I J b Q := by
  obtain ⟨h1, k⟩ := k
  refine w_zne (t := 190) (q := 181) rfl rfl rfl h1 (fun c2 => ?_) (fun c2 => ?_)
  · replace k := k.1 c2
    refine w_aload_n (q := 191) rfl rfl rfl ?_
    refine w_iconst (q := 192) rfl rfl ?_
    refine w_iconst (q := 193) rfl rfl ?_
    refine w_callv (q := 196) rfl rfl rfl rfl rfl rfl ?_
    exact k
  · replace k := k.2 c2
    refine w_aload_n (q := 182) rfl rfl rfl ?_
    refine w_bipush (q := 184) rfl rfl rfl ?_
    refine w_callv (q := 187) rfl rfl rfl rfl rfl rfl ?_
    exact k
theorem b187_35 {xs : Nat → Int32} {xl : Nat} {I J : w_I} {b : Bool} {Q : Option Value → w_I → w_I → Bool → Prop} {l1 l2 l3 s0 : Int} {u4 : Option Value} (k : ((-2147483648 ≤ s0 ∧ s0 < 2147483648) ∧ ((s0 = 0 → ((0 ≤ I 104 7 ∧ I 104 7 < 2001) ∧ ((-2147483648 ≤ I 106 (I 104 7) ∧ I 106 (I 104 7) < 2147483648) ∧ ((¬ I 106 (I 104 7) = 3 → ((I 106 (I 104 7) = 1 → w_C xs xl 182 [.ref 104, w_i 0, w_i (I 108 (I 104 7))] I J b (fun v Ic Jc bc => w_T xs xl 187 158 [some (.ref 104), some (w_i l1), some (w_i l2), some (w_i l3), some (w_i (-1))] [] (w_pv v []) Ic Jc bc Q)) ∧ (¬ I 106 (I 104 7) = 1 → w_C xs xl 175 [.ref 104, w_i 1] I J b (fun v Ic Jc bc => w_T xs xl 187 124 [some (.ref 104), some (w_i l1), some (w_i l2), some (w_i l3), some (w_i (-1))] [] (w_pv v []) Ic Jc bc Q)))) ∧ (I 106 (I 104 7) = 3 → w_C xs xl 186 [w_i (I 108 (I 104 7))] I J b (fun v Ic Jc bc => w_T xs xl 187 95 [some (.ref 104), some (w_i l1), some (w_i l2), some (w_i l3), u4] [] (w_pv v []) Ic Jc bc Q)))))) ∧ (¬ s0 = 0 → ((-2147483648 ≤ l1 ∧ l1 < 2147483648) ∧ ((¬ l1 = 6 → w_C xs xl 177 [.ref 104] I J b (fun v Ic Jc bc => w_T xs xl 187 54 [some (.ref 104), some (w_i l1), some (w_i l2), some (w_i l3), u4] [] (w_pv v []) Ic Jc bc Q)) ∧ (l1 = 6 → w_C xs xl 175 [.ref 104, w_i 2] I J b (fun v Ic Jc bc => w_T xs xl 187 49 [some (.ref 104), some (w_i l1), some (w_i l2), some (w_i l3), u4] [] (w_pv v []) Ic Jc bc Q)))))))) : w_T xs xl 187 35 [some (.ref 104), some (w_i l1), some (w_i l2), some (w_i l3), u4] [] [w_i s0] I J b Q := by
  obtain ⟨h1, k⟩ := k
  refine w_zeq (t := 70) (q := 38) rfl rfl rfl h1 (fun c2 => ?_) (fun c2 => ?_)
  · replace k := k.1 c2
    refine w_aload_n (q := 71) rfl rfl rfl ?_
    refine w_gfr (q := 74) rfl rfl rfl rfl (j := 106) rfl ?_
    refine w_aload_n (q := 75) rfl rfl rfl ?_
    refine w_gfi (q := 78) (k' := 7) (v := I 104 7) rfl rfl rfl rfl rfl rfl rfl ?_
    obtain ⟨h3, k⟩ := k
    refine w_iald (q := 79) (n := 2001) (v := I 106 (I 104 7)) rfl rfl rfl rfl rfl rfl h3 ?_
    refine w_iconst (q := 80) rfl rfl ?_
    obtain ⟨h4, k⟩ := k
    refine w_cne (t := 98) (q := 83) rfl rfl rfl h4 (by decide) (fun c5 => ?_) (fun c5 => ?_)
    · replace k := k.1 c5
      refine w_iconst (q := 99) rfl rfl ?_
      refine w_istore (q := 101) (L' := [some (.ref 104), some (w_i l1), some (w_i l2), some (w_i l3), some (w_i (-1))]) (M' := []) rfl rfl rfl rfl rfl ?_
      refine w_aload_n (q := 102) rfl rfl rfl ?_
      refine w_gfr (q := 105) rfl rfl rfl rfl (j := 106) rfl ?_
      refine w_aload_n (q := 106) rfl rfl rfl ?_
      refine w_gfi (q := 109) (k' := 7) (v := I 104 7) rfl rfl rfl rfl rfl rfl rfl ?_
      refine w_iald (q := 110) (n := 2001) (v := I 106 (I 104 7)) rfl rfl rfl rfl rfl rfl h3 ?_
      refine w_iconst (q := 111) rfl rfl ?_
      refine w_ceq (t := 125) (q := 114) rfl rfl rfl h4 (by decide) (fun c6 => ?_) (fun c6 => ?_)
      · replace k := k.1 c6
        refine w_aload_n (q := 126) rfl rfl rfl ?_
        refine w_iload (q := 128) rfl rfl rfl ?_
        refine w_zge (t := 135) (q := 131) rfl rfl rfl (by decide) (fun w => absurd w (by decide)) (fun _ => ?_)
        refine w_iconst (q := 132) rfl rfl ?_
        refine w_goto (t := 136) rfl rfl ?_
        refine w_iload (q := 138) rfl rfl rfl ?_
        refine w_zge (t := 153) (q := 141) rfl rfl rfl (by decide) (fun w => absurd w (by decide)) (fun _ => ?_)
        refine w_aload_n (q := 142) rfl rfl rfl ?_
        refine w_gfr (q := 145) rfl rfl rfl rfl (j := 108) rfl ?_
        refine w_aload_n (q := 146) rfl rfl rfl ?_
        refine w_gfi (q := 149) (k' := 7) (v := I 104 7) rfl rfl rfl rfl rfl rfl rfl ?_
        refine w_iald (q := 150) (n := 2001) (v := I 108 (I 104 7)) rfl rfl rfl rfl rfl rfl h3 ?_
        refine w_goto (t := 155) rfl rfl ?_
        refine w_callv (q := 158) rfl rfl rfl rfl rfl rfl ?_
        exact k
      · replace k := k.2 c6
        refine w_iload (q := 116) rfl rfl rfl ?_
        refine w_zge (t := 125) (q := 119) rfl rfl rfl (by decide) (fun w => absurd w (by decide)) (fun _ => ?_)
        refine w_aload_n (q := 120) rfl rfl rfl ?_
        refine w_iconst (q := 121) rfl rfl ?_
        refine w_callv (q := 124) rfl rfl rfl rfl rfl rfl ?_
        exact k
    · replace k := k.2 c5
      refine w_aload_n (q := 84) rfl rfl rfl ?_
      refine w_gfr (q := 87) rfl rfl rfl rfl (j := 108) rfl ?_
      refine w_aload_n (q := 88) rfl rfl rfl ?_
      refine w_gfi (q := 91) (k' := 7) (v := I 104 7) rfl rfl rfl rfl rfl rfl rfl ?_
      refine w_iald (q := 92) (n := 2001) (v := I 108 (I 104 7)) rfl rfl rfl rfl rfl rfl h3 ?_
      refine w_call (q := 95) rfl rfl rfl rfl rfl ?_
      exact k
  · replace k := k.2 c2
    refine w_iload_n (q := 39) rfl rfl rfl ?_
    refine w_bipush (q := 41) rfl rfl rfl ?_
    obtain ⟨h7, k⟩ := k
    refine w_cne (t := 50) (q := 44) rfl rfl rfl h7 (by decide) (fun c8 => ?_) (fun c8 => ?_)
    · replace k := k.1 c8
      refine w_aload_n (q := 51) rfl rfl rfl ?_
      refine w_callv (q := 54) rfl rfl rfl rfl rfl rfl ?_
      exact k
    · replace k := k.2 c8
      refine w_aload_n (q := 45) rfl rfl rfl ?_
      refine w_iconst (q := 46) rfl rfl ?_
      refine w_callv (q := 49) rfl rfl rfl rfl rfl rfl ?_
      exact k
theorem b187_196 {xs : Nat → Int32} {xl : Nat} {I J : w_I} {b : Bool} {Q : Option Value → w_I → w_I → Bool → Prop} {l1 l3 : Int} {u2 u4 : Option Value} (k : w_C xs xl 178 [.ref 104, w_i 42] I J b (fun v Ic Jc bc => w_T xs xl 187 203 [some (.ref 104), some (w_i l1), u2, some (w_i l3), u4] [] (w_pv v [.ref 104]) Ic Jc bc Q)) : w_T xs xl 187 196 [some (.ref 104), some (w_i l1), u2, some (w_i l3), u4] [] [] I J b Q := by
  refine w_aload_n (q := 197) rfl rfl rfl ?_
  refine w_aload_n (q := 198) rfl rfl rfl ?_
  refine w_bipush (q := 200) rfl rfl rfl ?_
  refine w_callv (q := 203) rfl rfl rfl rfl rfl rfl ?_
  exact k
theorem b187_187 {xs : Nat → Int32} {xl : Nat} {I J : w_I} {b : Bool} {Q : Option Value → w_I → w_I → Bool → Prop} {l1 l2 l3 s0 : Int} {u4 : Option Value} (k : ((-2147483648 ≤ s0 ∧ s0 < 2147483648) ∧ ((s0 = 0 → w_C xs xl 178 [.ref 104, w_i 43] I J b (fun v Ic Jc bc => w_T xs xl 187 234 [some (.ref 104), some (w_i l1), some (w_i l2), some (w_i l3), u4] [] (w_pv v []) Ic Jc bc Q)) ∧ (¬ s0 = 0 → w_C xs xl 184 [.ref 104, w_i 2, w_i 0] I J b (fun v Ic Jc bc => w_T xs xl 187 196 [some (.ref 104), some (w_i l1), some (w_i l2), some (w_i l3), u4] [] (w_pv v []) Ic Jc bc Q))))) : w_T xs xl 187 187 [some (.ref 104), some (w_i l1), some (w_i l2), some (w_i l3), u4] [] [w_i s0] I J b Q := by
  obtain ⟨h1, k⟩ := k
  refine w_zeq (t := 228) (q := 190) rfl rfl rfl h1 (fun c2 => ?_) (fun c2 => ?_)
  · replace k := k.1 c2
    refine w_aload_n (q := 229) rfl rfl rfl ?_
    refine w_bipush (q := 231) rfl rfl rfl ?_
    refine w_callv (q := 234) rfl rfl rfl rfl rfl rfl ?_
    exact k
  · replace k := k.2 c2
    refine w_aload_n (q := 191) rfl rfl rfl ?_
    refine w_iconst (q := 192) rfl rfl ?_
    refine w_iconst (q := 193) rfl rfl ?_
    refine w_callv (q := 196) rfl rfl rfl rfl rfl rfl ?_
    exact k
theorem b187_158 {xs : Nat → Int32} {xl : Nat} {I J : w_I} {b : Bool} {Q : Option Value → w_I → w_I → Bool → Prop} {l1 l3 : Int} {u2 u4 : Option Value} (k : w_C xs xl 177 [.ref 104] I J b (fun v Ic Jc bc => w_T xs xl 187 162 [some (.ref 104), some (w_i l1), u2, some (w_i l3), u4] [] (w_pv v []) Ic Jc bc Q)) : w_T xs xl 187 158 [some (.ref 104), some (w_i l1), u2, some (w_i l3), u4] [] [] I J b Q := by
  refine w_aload_n (q := 159) rfl rfl rfl ?_
  refine w_callv (q := 162) rfl rfl rfl rfl rfl rfl ?_
  exact k
theorem b187_124 {xs : Nat → Int32} {xl : Nat} {I J : w_I} {b : Bool} {Q : Option Value → w_I → w_I → Bool → Prop} {u1 u2 u3 u4 : Option Value} {s0 : Int} (k : ((s0 = 0 ∨ s0 = 1) ∧ Q (some (w_i s0)) I J b)) : w_T xs xl 187 124 [some (.ref 104), u1, u2, u3, u4] [] [w_i s0] I J b Q := by
  obtain ⟨h1, k⟩ := k
  refine w_iret rfl (w_nz1 h1) k
theorem b187_95 {xs : Nat → Int32} {xl : Nat} {I J : w_I} {b : Bool} {Q : Option Value → w_I → w_I → Bool → Prop} {l1 l3 s0 : Int} {u2 u4 : Option Value} (k : ((0 ≤ I 104 7 ∧ I 104 7 < 2001) ∧ ((-2147483648 ≤ I 106 (I 104 7) ∧ I 106 (I 104 7) < 2147483648) ∧ ((I 106 (I 104 7) = 1 → ((-2147483648 ≤ s0 ∧ s0 < 2147483648) ∧ ((0 ≤ s0 → ((0 ≤ s0 → w_C xs xl 182 [.ref 104, w_i 1, w_i s0] I J b (fun v Ic Jc bc => w_T xs xl 187 158 [some (.ref 104), some (w_i l1), u2, some (w_i l3), some (w_i s0)] [] (w_pv v []) Ic Jc bc Q)) ∧ (¬ 0 ≤ s0 → w_C xs xl 182 [.ref 104, w_i 1, w_i (I 108 (I 104 7))] I J b (fun v Ic Jc bc => w_T xs xl 187 158 [some (.ref 104), some (w_i l1), u2, some (w_i l3), some (w_i s0)] [] (w_pv v []) Ic Jc bc Q)))) ∧ (¬ 0 ≤ s0 → ((0 ≤ s0 → w_C xs xl 182 [.ref 104, w_i 0, w_i s0] I J b (fun v Ic Jc bc => w_T xs xl 187 158 [some (.ref 104), some (w_i l1), u2, some (w_i l3), some (w_i s0)] [] (w_pv v []) Ic Jc bc Q)) ∧ (¬ 0 ≤ s0 → w_C xs xl 182 [.ref 104, w_i 0, w_i (I 108 (I 104 7))] I J b (fun v Ic Jc bc => w_T xs xl 187 158 [some (.ref 104), some (w_i l1), u2, some (w_i l3), some (w_i s0)] [] (w_pv v []) Ic Jc bc Q))))))) ∧ (¬ I 106 (I 104 7) = 1 → ((-2147483648 ≤ s0 ∧ s0 < 2147483648) ∧ ((0 ≤ s0 → ((0 ≤ s0 → ((0 ≤ s0 → w_C xs xl 182 [.ref 104, w_i 1, w_i s0] I J b (fun v Ic Jc bc => w_T xs xl 187 158 [some (.ref 104), some (w_i l1), u2, some (w_i l3), some (w_i s0)] [] (w_pv v []) Ic Jc bc Q)) ∧ (¬ 0 ≤ s0 → w_C xs xl 182 [.ref 104, w_i 1, w_i (I 108 (I 104 7))] I J b (fun v Ic Jc bc => w_T xs xl 187 158 [some (.ref 104), some (w_i l1), u2, some (w_i l3), some (w_i s0)] [] (w_pv v []) Ic Jc bc Q)))) ∧ (¬ 0 ≤ s0 → ((0 ≤ s0 → w_C xs xl 182 [.ref 104, w_i 0, w_i s0] I J b (fun v Ic Jc bc => w_T xs xl 187 158 [some (.ref 104), some (w_i l1), u2, some (w_i l3), some (w_i s0)] [] (w_pv v []) Ic Jc bc Q)) ∧ (¬ 0 ≤ s0 → w_C xs xl 182 [.ref 104, w_i 0, w_i (I 108 (I 104 7))] I J b (fun v Ic Jc bc => w_T xs xl 187 158 [some (.ref 104), some (w_i l1), u2, some (w_i l3), some (w_i s0)] [] (w_pv v []) Ic Jc bc Q)))))) ∧ (¬ 0 ≤ s0 → w_C xs xl 175 [.ref 104, w_i 1] I J b (fun v Ic Jc bc => w_T xs xl 187 124 [some (.ref 104), some (w_i l1), u2, some (w_i l3), some (w_i s0)] [] (w_pv v []) Ic Jc bc Q))))))))) : w_T xs xl 187 95 [some (.ref 104), some (w_i l1), u2, some (w_i l3), u4] [] [w_i s0] I J b Q := by
  refine w_goto (t := 99) rfl rfl ?_
  refine w_istore (q := 101) (L' := [some (.ref 104), some (w_i l1), u2, some (w_i l3), some (w_i s0)]) (M' := []) rfl rfl rfl rfl rfl ?_
  refine w_aload_n (q := 102) rfl rfl rfl ?_
  refine w_gfr (q := 105) rfl rfl rfl rfl (j := 106) rfl ?_
  refine w_aload_n (q := 106) rfl rfl rfl ?_
  refine w_gfi (q := 109) (k' := 7) (v := I 104 7) rfl rfl rfl rfl rfl rfl rfl ?_
  obtain ⟨h1, k⟩ := k
  refine w_iald (q := 110) (n := 2001) (v := I 106 (I 104 7)) rfl rfl rfl rfl rfl rfl h1 ?_
  refine w_iconst (q := 111) rfl rfl ?_
  obtain ⟨h2, k⟩ := k
  refine w_ceq (t := 125) (q := 114) rfl rfl rfl h2 (by decide) (fun c3 => ?_) (fun c3 => ?_)
  · replace k := k.1 c3
    refine w_aload_n (q := 126) rfl rfl rfl ?_
    refine w_iload (q := 128) rfl rfl rfl ?_
    obtain ⟨h4, k⟩ := k
    refine w_zge (t := 135) (q := 131) rfl rfl rfl h4 (fun c5 => ?_) (fun c5 => ?_)
    · replace k := k.1 c5
      refine w_iconst (q := 136) rfl rfl ?_
      refine w_iload (q := 138) rfl rfl rfl ?_
      refine w_zge (t := 153) (q := 141) rfl rfl rfl h4 (fun c6 => ?_) (fun c6 => ?_)
      · replace k := k.1 c6
        refine w_iload (q := 155) rfl rfl rfl ?_
        refine w_callv (q := 158) rfl rfl rfl rfl rfl rfl ?_
        exact k
      · replace k := k.2 c6
        refine w_aload_n (q := 142) rfl rfl rfl ?_
        refine w_gfr (q := 145) rfl rfl rfl rfl (j := 108) rfl ?_
        refine w_aload_n (q := 146) rfl rfl rfl ?_
        refine w_gfi (q := 149) (k' := 7) (v := I 104 7) rfl rfl rfl rfl rfl rfl rfl ?_
        refine w_iald (q := 150) (n := 2001) (v := I 108 (I 104 7)) rfl rfl rfl rfl rfl rfl h1 ?_
        refine w_goto (t := 155) rfl rfl ?_
        refine w_callv (q := 158) rfl rfl rfl rfl rfl rfl ?_
        exact k
    · replace k := k.2 c5
      refine w_iconst (q := 132) rfl rfl ?_
      refine w_goto (t := 136) rfl rfl ?_
      refine w_iload (q := 138) rfl rfl rfl ?_
      refine w_zge (t := 153) (q := 141) rfl rfl rfl h4 (fun c7 => ?_) (fun c7 => ?_)
      · replace k := k.1 c7
        refine w_iload (q := 155) rfl rfl rfl ?_
        refine w_callv (q := 158) rfl rfl rfl rfl rfl rfl ?_
        exact k
      · replace k := k.2 c7
        refine w_aload_n (q := 142) rfl rfl rfl ?_
        refine w_gfr (q := 145) rfl rfl rfl rfl (j := 108) rfl ?_
        refine w_aload_n (q := 146) rfl rfl rfl ?_
        refine w_gfi (q := 149) (k' := 7) (v := I 104 7) rfl rfl rfl rfl rfl rfl rfl ?_
        refine w_iald (q := 150) (n := 2001) (v := I 108 (I 104 7)) rfl rfl rfl rfl rfl rfl h1 ?_
        refine w_goto (t := 155) rfl rfl ?_
        refine w_callv (q := 158) rfl rfl rfl rfl rfl rfl ?_
        exact k
  · replace k := k.2 c3
    refine w_iload (q := 116) rfl rfl rfl ?_
    obtain ⟨h8, k⟩ := k
    refine w_zge (t := 125) (q := 119) rfl rfl rfl h8 (fun c9 => ?_) (fun c9 => ?_)
    · replace k := k.1 c9
      refine w_aload_n (q := 126) rfl rfl rfl ?_
      refine w_iload (q := 128) rfl rfl rfl ?_
      refine w_zge (t := 135) (q := 131) rfl rfl rfl h8 (fun c10 => ?_) (fun c10 => ?_)
      · replace k := k.1 c10
        refine w_iconst (q := 136) rfl rfl ?_
        refine w_iload (q := 138) rfl rfl rfl ?_
        refine w_zge (t := 153) (q := 141) rfl rfl rfl h8 (fun c11 => ?_) (fun c11 => ?_)
        · replace k := k.1 c11
          refine w_iload (q := 155) rfl rfl rfl ?_
          refine w_callv (q := 158) rfl rfl rfl rfl rfl rfl ?_
          exact k
        · replace k := k.2 c11
          refine w_aload_n (q := 142) rfl rfl rfl ?_
          refine w_gfr (q := 145) rfl rfl rfl rfl (j := 108) rfl ?_
          refine w_aload_n (q := 146) rfl rfl rfl ?_
          refine w_gfi (q := 149) (k' := 7) (v := I 104 7) rfl rfl rfl rfl rfl rfl rfl ?_
          refine w_iald (q := 150) (n := 2001) (v := I 108 (I 104 7)) rfl rfl rfl rfl rfl rfl h1 ?_
          refine w_goto (t := 155) rfl rfl ?_
          refine w_callv (q := 158) rfl rfl rfl rfl rfl rfl ?_
          exact k
      · replace k := k.2 c10
        refine w_iconst (q := 132) rfl rfl ?_
        refine w_goto (t := 136) rfl rfl ?_
        refine w_iload (q := 138) rfl rfl rfl ?_
        refine w_zge (t := 153) (q := 141) rfl rfl rfl h8 (fun c12 => ?_) (fun c12 => ?_)
        · replace k := k.1 c12
          refine w_iload (q := 155) rfl rfl rfl ?_
          refine w_callv (q := 158) rfl rfl rfl rfl rfl rfl ?_
          exact k
        · replace k := k.2 c12
          refine w_aload_n (q := 142) rfl rfl rfl ?_
          refine w_gfr (q := 145) rfl rfl rfl rfl (j := 108) rfl ?_
          refine w_aload_n (q := 146) rfl rfl rfl ?_
          refine w_gfi (q := 149) (k' := 7) (v := I 104 7) rfl rfl rfl rfl rfl rfl rfl ?_
          refine w_iald (q := 150) (n := 2001) (v := I 108 (I 104 7)) rfl rfl rfl rfl rfl rfl h1 ?_
          refine w_goto (t := 155) rfl rfl ?_
          refine w_callv (q := 158) rfl rfl rfl rfl rfl rfl ?_
          exact k
    · replace k := k.2 c9
      refine w_aload_n (q := 120) rfl rfl rfl ?_
      refine w_iconst (q := 121) rfl rfl ?_
      refine w_callv (q := 124) rfl rfl rfl rfl rfl rfl ?_
      exact k
theorem b187_54 {xs : Nat → Int32} {xl : Nat} {I J : w_I} {b : Bool} {Q : Option Value → w_I → w_I → Bool → Prop} {l1 l2 l3 s0 : Int} {u4 : Option Value} (k : ((-2147483648 ≤ s0 ∧ s0 < 2147483648) ∧ ((¬ s0 = 0 → w_C xs xl 185 [.ref 104, w_i 0] I J b (fun v Ic Jc bc => w_T xs xl 187 67 [some (.ref 104), some (w_i (l1 + 1)), some (w_i l2), some (w_i l3), u4] [] (w_pv v []) Ic Jc bc Q)) ∧ (s0 = 0 → Q (some (w_i 0)) I J b)))) : w_T xs xl 187 54 [some (.ref 104), some (w_i l1), some (w_i l2), some (w_i l3), u4] [] [w_i s0] I J b Q := by
  obtain ⟨h1, k⟩ := k
  refine w_zne (t := 59) (q := 57) rfl rfl rfl h1 (fun c2 => ?_) (fun c2 => ?_)
  · replace k := k.1 c2
    refine w_iinc (q := 62) (L' := [some (.ref 104), some (w_i (l1 + 1)), some (w_i l2), some (w_i l3), u4]) (M' := []) rfl rfl rfl rfl rfl rfl ?_
    refine w_aload_n (q := 63) rfl rfl rfl ?_
    refine w_iconst (q := 64) rfl rfl ?_
    refine w_callv (q := 67) rfl rfl rfl rfl rfl rfl ?_
    exact k
  · replace k := k.2 c2
    refine w_iconst (q := 58) rfl rfl ?_
    refine w_iret rfl rfl k
theorem b187_49 {xs : Nat → Int32} {xl : Nat} {I J : w_I} {b : Bool} {Q : Option Value → w_I → w_I → Bool → Prop} {u1 u2 u3 u4 : Option Value} {s0 : Int} (k : ((s0 = 0 ∨ s0 = 1) ∧ Q (some (w_i s0)) I J b)) : w_T xs xl 187 49 [some (.ref 104), u1, u2, u3, u4] [] [w_i s0] I J b Q := by
  obtain ⟨h1, k⟩ := k
  refine w_iret rfl (w_nz1 h1) k
theorem b187_203 {xs : Nat → Int32} {xl : Nat} {I J : w_I} {b : Bool} {Q : Option Value → w_I → w_I → Bool → Prop} {l1 l3 s1 : Int} {u2 u4 : Option Value} (k : ((-2147483648 ≤ s1 ∧ s1 < 2147483648) ∧ ((s1 = 0 → w_C xs xl 185 [.ref 104, w_i 5] I J b (fun v Ic Jc bc => w_T xs xl 187 214 [some (.ref 104), some (w_i l1), u2, some (w_i l3), u4] [] (w_pv v []) Ic Jc bc Q)) ∧ (¬ s1 = 0 → w_C xs xl 185 [.ref 104, w_i 4] I J b (fun v Ic Jc bc => w_T xs xl 187 214 [some (.ref 104), some (w_i l1), u2, some (w_i l3), u4] [] (w_pv v []) Ic Jc bc Q))))) : w_T xs xl 187 203 [some (.ref 104), some (w_i l1), u2, some (w_i l3), u4] [] [w_i s1, .ref 104] I J b Q := by
  obtain ⟨h1, k⟩ := k
  refine w_zeq (t := 210) (q := 206) rfl rfl rfl h1 (fun c2 => ?_) (fun c2 => ?_)
  · replace k := k.1 c2
    refine w_iconst (q := 211) rfl rfl ?_
    refine w_callv (q := 214) rfl rfl rfl rfl rfl rfl ?_
    exact k
  · replace k := k.2 c2
    refine w_iconst (q := 207) rfl rfl ?_
    refine w_goto (t := 211) rfl rfl ?_
    refine w_callv (q := 214) rfl rfl rfl rfl rfl rfl ?_
    exact k
theorem b187_234 {xs : Nat → Int32} {xl : Nat} {I J : w_I} {b : Bool} {Q : Option Value → w_I → w_I → Bool → Prop} {l1 l2 l3 s0 : Int} {u4 : Option Value} (k : ((-2147483648 ≤ s0 ∧ s0 < 2147483648) ∧ ((¬ s0 = 0 → w_C xs xl 184 [.ref 104, w_i 1, w_i 0] I J b (fun v Ic Jc bc => w_T xs xl 187 252 [some (.ref 104), some (w_i l1), some (w_i l2), some (w_i l3), u4] [] (w_pv v []) Ic Jc bc Q)) ∧ (s0 = 0 → w_C xs xl 178 [.ref 104, w_i 45] I J b (fun v Ic Jc bc => w_T xs xl 187 243 [some (.ref 104), some (w_i l1), some (w_i l2), some (w_i l3), u4] [] (w_pv v []) Ic Jc bc Q))))) : w_T xs xl 187 234 [some (.ref 104), some (w_i l1), some (w_i l2), some (w_i l3), u4] [] [w_i s0] I J b Q := by
  obtain ⟨h1, k⟩ := k
  refine w_zne (t := 246) (q := 237) rfl rfl rfl h1 (fun c2 => ?_) (fun c2 => ?_)
  · replace k := k.1 c2
    refine w_aload_n (q := 247) rfl rfl rfl ?_
    refine w_iconst (q := 248) rfl rfl ?_
    refine w_iconst (q := 249) rfl rfl ?_
    refine w_callv (q := 252) rfl rfl rfl rfl rfl rfl ?_
    exact k
  · replace k := k.2 c2
    refine w_aload_n (q := 238) rfl rfl rfl ?_
    refine w_bipush (q := 240) rfl rfl rfl ?_
    refine w_callv (q := 243) rfl rfl rfl rfl rfl rfl ?_
    exact k
theorem b187_162 {xs : Nat → Int32} {xl : Nat} {I J : w_I} {b : Bool} {Q : Option Value → w_I → w_I → Bool → Prop} {l1 l3 s0 : Int} {u2 u4 : Option Value} (k : ((-2147483648 ≤ s0 ∧ s0 < 2147483648) ∧ ((¬ s0 = 0 → w_T xs xl 187 21 [some (.ref 104), some (w_i l1), some (w_i 0), some (w_i l3), u4] [] [] I J b Q) ∧ (s0 = 0 → Q (some (w_i 0)) I J b)))) : w_T xs xl 187 162 [some (.ref 104), some (w_i l1), u2, some (w_i l3), u4] [] [w_i s0] I J b Q := by
  obtain ⟨h1, k⟩ := k
  refine w_zne (t := 167) (q := 165) rfl rfl rfl h1 (fun c2 => ?_) (fun c2 => ?_)
  · replace k := k.1 c2
    refine w_iconst (q := 168) rfl rfl ?_
    refine w_istore_n (q := 169) (L' := [some (.ref 104), some (w_i l1), some (w_i 0), some (w_i l3), u4]) (M' := []) rfl rfl rfl rfl rfl ?_
    refine w_goto (t := 21) rfl rfl ?_
    exact k
  · replace k := k.2 c2
    refine w_iconst (q := 166) rfl rfl ?_
    refine w_iret rfl rfl k
theorem b187_67 {xs : Nat → Int32} {xl : Nat} {I J : w_I} {b : Bool} {Q : Option Value → w_I → w_I → Bool → Prop} {l1 l2 l3 : Int} {u4 : Option Value} (k : w_T xs xl 187 21 [some (.ref 104), some (w_i l1), some (w_i l2), some (w_i l3), u4] [] [] I J b Q) : w_T xs xl 187 67 [some (.ref 104), some (w_i l1), some (w_i l2), some (w_i l3), u4] [] [] I J b Q := by
  refine w_goto (t := 21) rfl rfl ?_
  exact k
theorem b187_214 {xs : Nat → Int32} {xl : Nat} {I J : w_I} {b : Bool} {Q : Option Value → w_I → w_I → Bool → Prop} {l1 l3 : Int} {u2 u4 : Option Value} (k : w_C xs xl 177 [.ref 104] I J b (fun v Ic Jc bc => w_T xs xl 187 218 [some (.ref 104), some (w_i l1), u2, some (w_i l3), u4] [] (w_pv v []) Ic Jc bc Q)) : w_T xs xl 187 214 [some (.ref 104), some (w_i l1), u2, some (w_i l3), u4] [] [] I J b Q := by
  refine w_aload_n (q := 215) rfl rfl rfl ?_
  refine w_callv (q := 218) rfl rfl rfl rfl rfl rfl ?_
  exact k
theorem b187_252 {xs : Nat → Int32} {xl : Nat} {I J : w_I} {b : Bool} {Q : Option Value → w_I → w_I → Bool → Prop} {l1 l3 : Int} {u2 u4 : Option Value} (k : w_C xs xl 178 [.ref 104, w_i 43] I J b (fun v Ic Jc bc => w_T xs xl 187 259 [some (.ref 104), some (w_i l1), u2, some (w_i l3), u4] [] (w_pv v [.ref 104]) Ic Jc bc Q)) : w_T xs xl 187 252 [some (.ref 104), some (w_i l1), u2, some (w_i l3), u4] [] [] I J b Q := by
  refine w_aload_n (q := 253) rfl rfl rfl ?_
  refine w_aload_n (q := 254) rfl rfl rfl ?_
  refine w_bipush (q := 256) rfl rfl rfl ?_
  refine w_callv (q := 259) rfl rfl rfl rfl rfl rfl ?_
  exact k
theorem b187_243 {xs : Nat → Int32} {xl : Nat} {I J : w_I} {b : Bool} {Q : Option Value → w_I → w_I → Bool → Prop} {l1 l2 l3 s0 : Int} {u4 : Option Value} (k : ((-2147483648 ≤ s0 ∧ s0 < 2147483648) ∧ ((s0 = 0 → ((-2147483648 ≤ l1 ∧ l1 < 2147483648) ∧ ((l1 ≤ 0 → w_T xs xl 187 21 [some (.ref 104), some (w_i l1), some (w_i l2), some (w_i 0), u4] [] [] I J b Q) ∧ (¬ l1 ≤ 0 → w_C xs xl 178 [.ref 104, w_i 41] I J b (fun v Ic Jc bc => w_T xs xl 187 294 [some (.ref 104), some (w_i l1), some (w_i l2), some (w_i l3), u4] [] (w_pv v []) Ic Jc bc Q))))) ∧ (¬ s0 = 0 → w_C xs xl 184 [.ref 104, w_i 1, w_i 0] I J b (fun v Ic Jc bc => w_T xs xl 187 252 [some (.ref 104), some (w_i l1), some (w_i l2), some (w_i l3), u4] [] (w_pv v []) Ic Jc bc Q))))) : w_T xs xl 187 243 [some (.ref 104), some (w_i l1), some (w_i l2), some (w_i l3), u4] [] [w_i s0] I J b Q := by
  obtain ⟨h1, k⟩ := k
  refine w_zeq (t := 284) (q := 246) rfl rfl rfl h1 (fun c2 => ?_) (fun c2 => ?_)
  · replace k := k.1 c2
    refine w_iload_n (q := 285) rfl rfl rfl ?_
    obtain ⟨h3, k⟩ := k
    refine w_zle (t := 334) (q := 288) rfl rfl rfl h3 (fun c4 => ?_) (fun c4 => ?_)
    · replace k := k.1 c4
      refine w_iconst (q := 335) rfl rfl ?_
      refine w_istore_n (q := 336) (L' := [some (.ref 104), some (w_i l1), some (w_i l2), some (w_i 0), u4]) (M' := []) rfl rfl rfl rfl rfl ?_
      refine w_goto (t := 21) rfl rfl ?_
      exact k
    · replace k := k.2 c4
      refine w_aload_n (q := 289) rfl rfl rfl ?_
      refine w_bipush (q := 291) rfl rfl rfl ?_
      refine w_callv (q := 294) rfl rfl rfl rfl rfl rfl ?_
      exact k
  · replace k := k.2 c2
    refine w_aload_n (q := 247) rfl rfl rfl ?_
    refine w_iconst (q := 248) rfl rfl ?_
    refine w_iconst (q := 249) rfl rfl ?_
    refine w_callv (q := 252) rfl rfl rfl rfl rfl rfl ?_
    exact k
theorem b187_218 {xs : Nat → Int32} {xl : Nat} {I J : w_I} {b : Bool} {Q : Option Value → w_I → w_I → Bool → Prop} {l1 l3 s0 : Int} {u2 u4 : Option Value} (k : ((-2147483648 ≤ s0 ∧ s0 < 2147483648) ∧ ((¬ s0 = 0 → w_T xs xl 187 21 [some (.ref 104), some (w_i l1), some (w_i 1), some (w_i l3), u4] [] [] I J b Q) ∧ (s0 = 0 → Q (some (w_i 0)) I J b)))) : w_T xs xl 187 218 [some (.ref 104), some (w_i l1), u2, some (w_i l3), u4] [] [w_i s0] I J b Q := by
  obtain ⟨h1, k⟩ := k
  refine w_zne (t := 223) (q := 221) rfl rfl rfl h1 (fun c2 => ?_) (fun c2 => ?_)
  · replace k := k.1 c2
    refine w_iconst (q := 224) rfl rfl ?_
    refine w_istore_n (q := 225) (L' := [some (.ref 104), some (w_i l1), some (w_i 1), some (w_i l3), u4]) (M' := []) rfl rfl rfl rfl rfl ?_
    refine w_goto (t := 21) rfl rfl ?_
    exact k
  · replace k := k.2 c2
    refine w_iconst (q := 222) rfl rfl ?_
    refine w_iret rfl rfl k
theorem b187_259 {xs : Nat → Int32} {xl : Nat} {I J : w_I} {b : Bool} {Q : Option Value → w_I → w_I → Bool → Prop} {l1 l3 s1 : Int} {u2 u4 : Option Value} (k : ((-2147483648 ≤ s1 ∧ s1 < 2147483648) ∧ ((s1 = 0 → w_C xs xl 185 [.ref 104, w_i 3] I J b (fun v Ic Jc bc => w_T xs xl 187 270 [some (.ref 104), some (w_i l1), u2, some (w_i l3), u4] [] (w_pv v []) Ic Jc bc Q)) ∧ (¬ s1 = 0 → w_C xs xl 185 [.ref 104, w_i 2] I J b (fun v Ic Jc bc => w_T xs xl 187 270 [some (.ref 104), some (w_i l1), u2, some (w_i l3), u4] [] (w_pv v []) Ic Jc bc Q))))) : w_T xs xl 187 259 [some (.ref 104), some (w_i l1), u2, some (w_i l3), u4] [] [w_i s1, .ref 104] I J b Q := by
  obtain ⟨h1, k⟩ := k
  refine w_zeq (t := 266) (q := 262) rfl rfl rfl h1 (fun c2 => ?_) (fun c2 => ?_)
  · replace k := k.1 c2
    refine w_iconst (q := 267) rfl rfl ?_
    refine w_callv (q := 270) rfl rfl rfl rfl rfl rfl ?_
    exact k
  · replace k := k.2 c2
    refine w_iconst (q := 263) rfl rfl ?_
    refine w_goto (t := 267) rfl rfl ?_
    refine w_callv (q := 270) rfl rfl rfl rfl rfl rfl ?_
    exact k
theorem b187_294 {xs : Nat → Int32} {xl : Nat} {I J : w_I} {b : Bool} {Q : Option Value → w_I → w_I → Bool → Prop} {l1 l2 l3 s0 : Int} {u4 : Option Value} (k : ((-2147483648 ≤ s0 ∧ s0 < 2147483648) ∧ ((¬ s0 = 0 → w_C xs xl 177 [.ref 104] I J b (fun v Ic Jc bc => w_T xs xl 187 307 [some (.ref 104), some (w_i l1), some (w_i l2), some (w_i l3), u4] [] (w_pv v []) Ic Jc bc Q)) ∧ (s0 = 0 → w_C xs xl 175 [.ref 104, w_i 1] I J b (fun v Ic Jc bc => w_T xs xl 187 302 [some (.ref 104), some (w_i l1), some (w_i l2), some (w_i l3), u4] [] (w_pv v []) Ic Jc bc Q))))) : w_T xs xl 187 294 [some (.ref 104), some (w_i l1), some (w_i l2), some (w_i l3), u4] [] [w_i s0] I J b Q := by
  obtain ⟨h1, k⟩ := k
  refine w_zne (t := 303) (q := 297) rfl rfl rfl h1 (fun c2 => ?_) (fun c2 => ?_)
  · replace k := k.1 c2
    refine w_aload_n (q := 304) rfl rfl rfl ?_
    refine w_callv (q := 307) rfl rfl rfl rfl rfl rfl ?_
    exact k
  · replace k := k.2 c2
    refine w_aload_n (q := 298) rfl rfl rfl ?_
    refine w_iconst (q := 299) rfl rfl ?_
    refine w_callv (q := 302) rfl rfl rfl rfl rfl rfl ?_
    exact k
theorem b187_270 {xs : Nat → Int32} {xl : Nat} {I J : w_I} {b : Bool} {Q : Option Value → w_I → w_I → Bool → Prop} {l1 l3 : Int} {u2 u4 : Option Value} (k : w_C xs xl 177 [.ref 104] I J b (fun v Ic Jc bc => w_T xs xl 187 274 [some (.ref 104), some (w_i l1), u2, some (w_i l3), u4] [] (w_pv v []) Ic Jc bc Q)) : w_T xs xl 187 270 [some (.ref 104), some (w_i l1), u2, some (w_i l3), u4] [] [] I J b Q := by
  refine w_aload_n (q := 271) rfl rfl rfl ?_
  refine w_callv (q := 274) rfl rfl rfl rfl rfl rfl ?_
  exact k
theorem b187_307 {xs : Nat → Int32} {xl : Nat} {I J : w_I} {b : Bool} {Q : Option Value → w_I → w_I → Bool → Prop} {l1 l2 l3 s0 : Int} {u4 : Option Value} (k : ((-2147483648 ≤ s0 ∧ s0 < 2147483648) ∧ ((¬ s0 = 0 → w_C xs xl 184 [.ref 104, w_i 1, w_i 0] I J b (fun v Ic Jc bc => w_T xs xl 187 318 [some (.ref 104), some (w_i l1), some (w_i l2), some (w_i l3), u4] [] (w_pv v []) Ic Jc bc Q)) ∧ (s0 = 0 → Q (some (w_i 0)) I J b)))) : w_T xs xl 187 307 [some (.ref 104), some (w_i l1), some (w_i l2), some (w_i l3), u4] [] [w_i s0] I J b Q := by
  obtain ⟨h1, k⟩ := k
  refine w_zne (t := 312) (q := 310) rfl rfl rfl h1 (fun c2 => ?_) (fun c2 => ?_)
  · replace k := k.1 c2
    refine w_aload_n (q := 313) rfl rfl rfl ?_
    refine w_iconst (q := 314) rfl rfl ?_
    refine w_iconst (q := 315) rfl rfl ?_
    refine w_callv (q := 318) rfl rfl rfl rfl rfl rfl ?_
    exact k
  · replace k := k.2 c2
    refine w_iconst (q := 311) rfl rfl ?_
    refine w_iret rfl rfl k
theorem b187_302 {xs : Nat → Int32} {xl : Nat} {I J : w_I} {b : Bool} {Q : Option Value → w_I → w_I → Bool → Prop} {u1 u2 u3 u4 : Option Value} {s0 : Int} (k : ((s0 = 0 ∨ s0 = 1) ∧ Q (some (w_i s0)) I J b)) : w_T xs xl 187 302 [some (.ref 104), u1, u2, u3, u4] [] [w_i s0] I J b Q := by
  obtain ⟨h1, k⟩ := k
  refine w_iret rfl (w_nz1 h1) k
theorem b187_274 {xs : Nat → Int32} {xl : Nat} {I J : w_I} {b : Bool} {Q : Option Value → w_I → w_I → Bool → Prop} {l1 l3 s0 : Int} {u2 u4 : Option Value} (k : ((-2147483648 ≤ s0 ∧ s0 < 2147483648) ∧ ((¬ s0 = 0 → w_T xs xl 187 21 [some (.ref 104), some (w_i l1), some (w_i 1), some (w_i l3), u4] [] [] I J b Q) ∧ (s0 = 0 → Q (some (w_i 0)) I J b)))) : w_T xs xl 187 274 [some (.ref 104), some (w_i l1), u2, some (w_i l3), u4] [] [w_i s0] I J b Q := by
  obtain ⟨h1, k⟩ := k
  refine w_zne (t := 279) (q := 277) rfl rfl rfl h1 (fun c2 => ?_) (fun c2 => ?_)
  · replace k := k.1 c2
    refine w_iconst (q := 280) rfl rfl ?_
    refine w_istore_n (q := 281) (L' := [some (.ref 104), some (w_i l1), some (w_i 1), some (w_i l3), u4]) (M' := []) rfl rfl rfl rfl rfl ?_
    refine w_goto (t := 21) rfl rfl ?_
    exact k
  · replace k := k.2 c2
    refine w_iconst (q := 278) rfl rfl ?_
    refine w_iret rfl rfl k
theorem b187_318 {xs : Nat → Int32} {xl : Nat} {I J : w_I} {b : Bool} {Q : Option Value → w_I → w_I → Bool → Prop} {l1 l2 l3 : Int} {u4 : Option Value} (k : w_T xs xl 187 21 [some (.ref 104), some (w_i (l1 + (-1))), some (w_i l2), some (w_i l3), u4] [] [] (w_U I 104 26 (I 104 26 - 1)) J b Q) : w_T xs xl 187 318 [some (.ref 104), some (w_i l1), some (w_i l2), some (w_i l3), u4] [] [] I J b Q := by
  refine w_aload_n (q := 319) rfl rfl rfl ?_
  refine w_dup (q := 320) rfl rfl rfl ?_
  refine w_gfi (q := 323) (k' := 26) (v := I 104 26) rfl rfl rfl rfl rfl rfl rfl ?_
  refine w_iconst (q := 324) rfl rfl ?_
  refine w_isub (q := 325) rfl rfl ?_
  refine w_pfi (q := 328) (k' := 26) rfl rfl rfl rfl ?_
  refine w_iinc (q := 331) (L' := [some (.ref 104), some (w_i (l1 + (-1))), some (w_i l2), some (w_i l3), u4]) (M' := []) rfl rfl rfl rfl rfl rfl ?_
  refine w_goto (t := 21) rfl rfl ?_
  exact k
theorem e188 {xs : Nat → Int32} {xl : Nat} {I J : w_I} {b : Bool} {Q : Option Value → w_I → w_I → Bool → Prop} (t : w_T xs xl 188 0 [some (.ref 104), none, none, none, none, none] [] [] I J b Q) : w_C xs xl 188 [.ref 104] I J b Q := w_en rfl t
theorem b188_0 {xs : Nat → Int32} {xl : Nat} {I J : w_I} {b : Bool} {Q : Option Value → w_I → w_I → Bool → Prop} (k : w_T xs xl 188 14 [some (.ref 104), some (w_i 0), some (w_i 1), none, none, none] [] [] (w_U I 104 29 (I 114 1)) J b Q) : w_T xs xl 188 0 [some (.ref 104), none, none, none, none, none] [] [] I J b Q := by
  refine w_aload_n (q := 1) rfl rfl rfl ?_
  refine w_aload_n (q := 2) rfl rfl rfl ?_
  refine w_gfr (q := 5) rfl rfl rfl rfl (j := 114) rfl ?_
  refine w_iconst (q := 6) rfl rfl ?_
  refine w_iald (q := 7) (n := 4) (v := I 114 1) rfl rfl rfl rfl rfl rfl (by decide) ?_
  refine w_pfi (q := 10) (k' := 29) rfl rfl rfl rfl ?_
  refine w_iconst (q := 11) rfl rfl ?_
  refine w_istore_n (q := 12) (L' := [some (.ref 104), some (w_i 0), none, none, none, none]) (M' := []) rfl rfl rfl rfl rfl ?_
  refine w_iconst (q := 13) rfl rfl ?_
  refine w_istore_n (q := 14) (L' := [some (.ref 104), some (w_i 0), some (w_i 1), none, none, none]) (M' := []) rfl rfl rfl rfl rfl ?_
  exact k
theorem b188_14 {xs : Nat → Int32} {xl : Nat} {I J : w_I} {b : Bool} {Q : Option Value → w_I → w_I → Bool → Prop} {l1 l2 : Int} {u3 u4 u5 : Option Value} (k : ((-2147483648 ≤ l2 ∧ l2 < 2147483648) ∧ ((l2 = 0 → Q (some (w_i 1)) I J b) ∧ (¬ l2 = 0 → w_T xs xl 188 32 [some (.ref 104), some (w_i l1), some (w_i l2), some (w_i (200 + I 114 1)), some (w_i 0), u5] [] [] I J b Q)))) : w_T xs xl 188 14 [some (.ref 104), some (w_i l1), some (w_i l2), u3, u4, u5] [] [] I J b Q := by
  refine w_iload_n (q := 15) rfl rfl rfl ?_
  obtain ⟨h1, k⟩ := k
  refine w_zeq (t := 273) (q := 18) rfl rfl rfl h1 (fun c2 => ?_) (fun c2 => ?_)
  · replace k := k.1 c2
    refine w_iconst (q := 274) rfl rfl ?_
    refine w_iret rfl rfl k
  · replace k := k.2 c2
    refine w_sipush (q := 21) rfl rfl rfl ?_
    refine w_aload_n (q := 22) rfl rfl rfl ?_
    refine w_gfr (q := 25) rfl rfl rfl rfl (j := 114) rfl ?_
    refine w_iconst (q := 26) rfl rfl ?_
    refine w_iald (q := 27) (n := 4) (v := I 114 1) rfl rfl rfl rfl rfl rfl (by decide) ?_
    refine w_iadd (q := 28) rfl rfl ?_
    refine w_istore_n (q := 29) (L' := [some (.ref 104), some (w_i l1), some (w_i l2), some (w_i (200 + I 114 1)), u4, u5]) (M' := []) rfl rfl rfl rfl rfl ?_
    refine w_iconst (q := 30) rfl rfl ?_
    refine w_istore (q := 32) (L' := [some (.ref 104), some (w_i l1), some (w_i l2), some (w_i (200 + I 114 1)), some (w_i 0), u5]) (M' := []) rfl rfl rfl rfl rfl ?_
    exact k
theorem b188_32 {xs : Nat → Int32} {xl : Nat} {I J : w_I} {b : Bool} {Q : Option Value → w_I → w_I → Bool → Prop} {l1 l3 l4 : Int} {u2 u5 : Option Value} (k : w_C xs xl 179 [.ref 104, w_i 10] I J b (fun v Ic Jc bc => w_T xs xl 188 38 [some (.ref 104), some (w_i l1), u2, some (w_i l3), some (w_i l4), u5] [] (w_pv v []) Ic Jc bc Q)) : w_T xs xl 188 32 [some (.ref 104), some (w_i l1), u2, some (w_i l3), some (w_i l4), u5] [] [] I J b Q := by
  refine w_aload_n (q := 33) rfl rfl rfl ?_
  refine w_bipush (q := 35) rfl rfl rfl ?_
  refine w_callv (q := 38) rfl rfl rfl rfl rfl rfl ?_
  exact k
theorem b188_38 {xs : Nat → Int32} {xl : Nat} {I J : w_I} {b : Bool} {Q : Option Value → w_I → w_I → Bool → Prop} {l1 l3 l4 s0 : Int} {u2 u5 : Option Value} (k : ((-2147483648 ≤ s0 ∧ s0 < 2147483648) ∧ ((s0 = 0 → w_C xs xl 187 [.ref 104] I J b (fun v Ic Jc bc => w_T xs xl 188 69 [some (.ref 104), some (w_i l1), u2, some (w_i l3), some (w_i l4), u5] [] (w_pv v []) Ic Jc bc Q)) ∧ (¬ s0 = 0 → w_C xs xl 177 [.ref 104] I J b (fun v Ic Jc bc => w_T xs xl 188 45 [some (.ref 104), some (w_i l1), u2, some (w_i l3), some (w_i l4), u5] [] (w_pv v []) Ic Jc bc Q))))) : w_T xs xl 188 38 [some (.ref 104), some (w_i l1), u2, some (w_i l3), some (w_i l4), u5] [] [w_i s0] I J b Q := by
  obtain ⟨h1, k⟩ := k
  refine w_zeq (t := 65) (q := 41) rfl rfl rfl h1 (fun c2 => ?_) (fun c2 => ?_)
  · replace k := k.1 c2
    refine w_aload_n (q := 66) rfl rfl rfl ?_
    refine w_callv (q := 69) rfl rfl rfl rfl rfl rfl ?_
    exact k
  · replace k := k.2 c2
    refine w_aload_n (q := 42) rfl rfl rfl ?_
    refine w_callv (q := 45) rfl rfl rfl rfl rfl rfl ?_
    exact k
theorem b188_69 {xs : Nat → Int32} {xl : Nat} {I J : w_I} {b : Bool} {Q : Option Value → w_I → w_I → Bool → Prop} {l1 l3 l4 s0 : Int} {u2 u5 : Option Value} (k : ((-2147483648 ≤ s0 ∧ s0 < 2147483648) ∧ ((¬ s0 = 0 → ((0 ≤ l3 ∧ l3 < 800) ∧ w_C xs xl 178 [.ref 104, w_i 300] (w_U (w_U I 117 l3 (I 104 28)) 118 l3 (I 111 1)) J b (fun v Ic Jc bc => w_T xs xl 188 103 [some (.ref 104), some (w_i l1), u2, some (w_i l3), some (w_i l4), u5] [] (w_pv v []) Ic Jc bc Q))) ∧ (s0 = 0 → Q (some (w_i 0)) I J b)))) : w_T xs xl 188 69 [some (.ref 104), some (w_i l1), u2, some (w_i l3), some (w_i l4), u5] [] [w_i s0] I J b Q := by
  obtain ⟨h1, k⟩ := k
  refine w_zne (t := 74) (q := 72) rfl rfl rfl h1 (fun c2 => ?_) (fun c2 => ?_)
  · replace k := k.1 c2
    refine w_aload_n (q := 75) rfl rfl rfl ?_
    refine w_gfr (q := 78) rfl rfl rfl rfl (j := 117) rfl ?_
    refine w_iload_n (q := 79) rfl rfl rfl ?_
    refine w_aload_n (q := 80) rfl rfl rfl ?_
    refine w_gfi (q := 83) (k' := 28) (v := I 104 28) rfl rfl rfl rfl rfl rfl rfl ?_
    obtain ⟨h3, k⟩ := k
    refine w_iast (q := 84) (n := 800) rfl rfl rfl rfl rfl h3 ?_
    refine w_aload_n (q := 85) rfl rfl rfl ?_
    refine w_gfr (q := 88) rfl rfl rfl rfl (j := 118) rfl ?_
    refine w_iload_n (q := 89) rfl rfl rfl ?_
    refine w_aload_n (q := 90) rfl rfl rfl ?_
    refine w_gfr (q := 93) rfl rfl rfl rfl (j := 111) rfl ?_
    refine w_iconst (q := 94) rfl rfl ?_
    refine w_iald (q := 95) (n := 4) (v := I 111 1) rfl rfl rfl rfl rfl rfl (by decide) ?_
    refine w_iast (q := 96) (n := 800) rfl rfl rfl rfl rfl h3 ?_
    refine w_aload_n (q := 97) rfl rfl rfl ?_
    refine w_sipush (q := 100) rfl rfl rfl ?_
    refine w_callv (q := 103) rfl rfl rfl rfl rfl rfl ?_
    exact k
  · replace k := k.2 c2
    refine w_iconst (q := 73) rfl rfl ?_
    refine w_iret rfl rfl k
theorem b188_45 {xs : Nat → Int32} {xl : Nat} {I J : w_I} {b : Bool} {Q : Option Value → w_I → w_I → Bool → Prop} {l1 l3 l4 s0 : Int} {u2 u5 : Option Value} (k : ((-2147483648 ≤ s0 ∧ s0 < 2147483648) ∧ ((¬ s0 = 0 → ((-2147483648 ≤ l4 ∧ l4 < 2147483648) ∧ ((¬ l4 = 0 → w_T xs xl 188 32 [some (.ref 104), some (w_i l1), u2, some (w_i l3), some (w_i 0), u5] [] [] I J b Q) ∧ (l4 = 0 → w_T xs xl 188 32 [some (.ref 104), some (w_i l1), u2, some (w_i l3), some (w_i 1), u5] [] [] I J b Q)))) ∧ (s0 = 0 → Q (some (w_i 0)) I J b)))) : w_T xs xl 188 45 [some (.ref 104), some (w_i l1), u2, some (w_i l3), some (w_i l4), u5] [] [w_i s0] I J b Q := by
  obtain ⟨h1, k⟩ := k
  refine w_zne (t := 50) (q := 48) rfl rfl rfl h1 (fun c2 => ?_) (fun c2 => ?_)
  · replace k := k.1 c2
    refine w_iload (q := 52) rfl rfl rfl ?_
    obtain ⟨h3, k⟩ := k
    refine w_zne (t := 59) (q := 55) rfl rfl rfl h3 (fun c4 => ?_) (fun c4 => ?_)
    · replace k := k.1 c4
      refine w_iconst (q := 60) rfl rfl ?_
      refine w_istore (q := 62) (L' := [some (.ref 104), some (w_i l1), u2, some (w_i l3), some (w_i 0), u5]) (M' := []) rfl rfl rfl rfl rfl ?_
      refine w_goto (t := 32) rfl rfl ?_
      exact k
    · replace k := k.2 c4
      refine w_iconst (q := 56) rfl rfl ?_
      refine w_goto (t := 60) rfl rfl ?_
      refine w_istore (q := 62) (L' := [some (.ref 104), some (w_i l1), u2, some (w_i l3), some (w_i 1), u5]) (M' := []) rfl rfl rfl rfl rfl ?_
      refine w_goto (t := 32) rfl rfl ?_
      exact k
  · replace k := k.2 c2
    refine w_iconst (q := 49) rfl rfl ?_
    refine w_iret rfl rfl k
theorem b188_103 {xs : Nat → Int32} {xl : Nat} {I J : w_I} {b : Bool} {Q : Option Value → w_I → w_I → Bool → Prop} {l1 l3 l4 s0 : Int} {u2 u5 : Option Value} (k : ((-2147483648 ≤ s0 ∧ s0 < 2147483648) ∧ ((¬ s0 = 0 → ((0 ≤ I 104 7 ∧ I 104 7 < 2001) ∧ ((0 ≤ l3 ∧ l3 < 800) ∧ w_C xs xl 177 [.ref 104] (w_U I 116 l3 (I 108 (I 104 7))) J b (fun v Ic Jc bc => w_T xs xl 188 172 [some (.ref 104), some (w_i l1), u2, some (w_i l3), some (w_i l4), some (w_i 1)] [] (w_pv v []) Ic Jc bc Q)))) ∧ (s0 = 0 → w_C xs xl 178 [.ref 104, w_i 301] I J b (fun v Ic Jc bc => w_T xs xl 188 113 [some (.ref 104), some (w_i l1), u2, some (w_i l3), some (w_i l4), u5] [] (w_pv v []) Ic Jc bc Q))))) : w_T xs xl 188 103 [some (.ref 104), some (w_i l1), u2, some (w_i l3), some (w_i l4), u5] [] [w_i s0] I J b Q := by
  obtain ⟨h1, k⟩ := k
  refine w_zne (t := 135) (q := 106) rfl rfl rfl h1 (fun c2 => ?_) (fun c2 => ?_)
  · replace k := k.1 c2
    refine w_iconst (q := 136) rfl rfl ?_
    refine w_goto (t := 140) rfl rfl ?_
    refine w_istore (q := 142) (L' := [some (.ref 104), some (w_i l1), u2, some (w_i l3), some (w_i l4), some (w_i 1)]) (M' := []) rfl rfl rfl rfl rfl ?_
    refine w_iload (q := 144) rfl rfl rfl ?_
    refine w_zne (t := 153) (q := 147) rfl rfl rfl (by decide) (fun _ => ?_) (fun w => absurd w (by decide))
    refine w_aload_n (q := 154) rfl rfl rfl ?_
    refine w_gfr (q := 157) rfl rfl rfl rfl (j := 116) rfl ?_
    refine w_iload_n (q := 158) rfl rfl rfl ?_
    refine w_aload_n (q := 159) rfl rfl rfl ?_
    refine w_gfr (q := 162) rfl rfl rfl rfl (j := 108) rfl ?_
    refine w_aload_n (q := 163) rfl rfl rfl ?_
    refine w_gfi (q := 166) (k' := 7) (v := I 104 7) rfl rfl rfl rfl rfl rfl rfl ?_
    obtain ⟨h3, k⟩ := k
    refine w_iald (q := 167) (n := 2001) (v := I 108 (I 104 7)) rfl rfl rfl rfl rfl rfl h3 ?_
    obtain ⟨h4, k⟩ := k
    refine w_iast (q := 168) (n := 800) rfl rfl rfl rfl rfl h4 ?_
    refine w_aload_n (q := 169) rfl rfl rfl ?_
    refine w_callv (q := 172) rfl rfl rfl rfl rfl rfl ?_
    exact k
  · replace k := k.2 c2
    refine w_aload_n (q := 107) rfl rfl rfl ?_
    refine w_sipush (q := 110) rfl rfl rfl ?_
    refine w_callv (q := 113) rfl rfl rfl rfl rfl rfl ?_
    exact k
theorem b188_172 {xs : Nat → Int32} {xl : Nat} {I J : w_I} {b : Bool} {Q : Option Value → w_I → w_I → Bool → Prop} {l1 l3 l4 s0 : Int} {u2 u5 : Option Value} (k : ((-2147483648 ≤ s0 ∧ s0 < 2147483648) ∧ ((s0 = 0 → Q (some (w_i 0)) I J b) ∧ (¬ s0 = 0 → w_C xs xl 187 [.ref 104] I J b (fun v Ic Jc bc => w_T xs xl 188 179 [some (.ref 104), some (w_i l1), u2, some (w_i l3), some (w_i l4), u5] [] (w_pv v []) Ic Jc bc Q))))) : w_T xs xl 188 172 [some (.ref 104), some (w_i l1), u2, some (w_i l3), some (w_i l4), u5] [] [w_i s0] I J b Q := by
  obtain ⟨h1, k⟩ := k
  refine w_zeq (t := 182) (q := 175) rfl rfl rfl h1 (fun c2 => ?_) (fun c2 => ?_)
  · replace k := k.1 c2
    refine w_iconst (q := 183) rfl rfl ?_
    refine w_iret rfl rfl k
  · replace k := k.2 c2
    refine w_aload_n (q := 176) rfl rfl rfl ?_
    refine w_callv (q := 179) rfl rfl rfl rfl rfl rfl ?_
    exact k
theorem b188_113 {xs : Nat → Int32} {xl : Nat} {I J : w_I} {b : Bool} {Q : Option Value → w_I → w_I → Bool → Prop} {l1 l3 l4 s0 : Int} {u2 u5 : Option Value} (k : ((-2147483648 ≤ s0 ∧ s0 < 2147483648) ∧ ((¬ s0 = 0 → ((0 ≤ I 104 7 ∧ I 104 7 < 2001) ∧ ((0 ≤ l3 ∧ l3 < 800) ∧ w_C xs xl 177 [.ref 104] (w_U I 116 l3 (I 108 (I 104 7))) J b (fun v Ic Jc bc => w_T xs xl 188 172 [some (.ref 104), some (w_i l1), u2, some (w_i l3), some (w_i l4), some (w_i 1)] [] (w_pv v []) Ic Jc bc Q)))) ∧ (s0 = 0 → w_C xs xl 178 [.ref 104, w_i 302] I J b (fun v Ic Jc bc => w_T xs xl 188 123 [some (.ref 104), some (w_i l1), u2, some (w_i l3), some (w_i l4), u5] [] (w_pv v []) Ic Jc bc Q))))) : w_T xs xl 188 113 [some (.ref 104), some (w_i l1), u2, some (w_i l3), some (w_i l4), u5] [] [w_i s0] I J b Q := by
  obtain ⟨h1, k⟩ := k
  refine w_zne (t := 135) (q := 116) rfl rfl rfl h1 (fun c2 => ?_) (fun c2 => ?_)
  · replace k := k.1 c2
    refine w_iconst (q := 136) rfl rfl ?_
    refine w_goto (t := 140) rfl rfl ?_
    refine w_istore (q := 142) (L' := [some (.ref 104), some (w_i l1), u2, some (w_i l3), some (w_i l4), some (w_i 1)]) (M' := []) rfl rfl rfl rfl rfl ?_
    refine w_iload (q := 144) rfl rfl rfl ?_
    refine w_zne (t := 153) (q := 147) rfl rfl rfl (by decide) (fun _ => ?_) (fun w => absurd w (by decide))
    refine w_aload_n (q := 154) rfl rfl rfl ?_
    refine w_gfr (q := 157) rfl rfl rfl rfl (j := 116) rfl ?_
    refine w_iload_n (q := 158) rfl rfl rfl ?_
    refine w_aload_n (q := 159) rfl rfl rfl ?_
    refine w_gfr (q := 162) rfl rfl rfl rfl (j := 108) rfl ?_
    refine w_aload_n (q := 163) rfl rfl rfl ?_
    refine w_gfi (q := 166) (k' := 7) (v := I 104 7) rfl rfl rfl rfl rfl rfl rfl ?_
    obtain ⟨h3, k⟩ := k
    refine w_iald (q := 167) (n := 2001) (v := I 108 (I 104 7)) rfl rfl rfl rfl rfl rfl h3 ?_
    obtain ⟨h4, k⟩ := k
    refine w_iast (q := 168) (n := 800) rfl rfl rfl rfl rfl h4 ?_
    refine w_aload_n (q := 169) rfl rfl rfl ?_
    refine w_callv (q := 172) rfl rfl rfl rfl rfl rfl ?_
    exact k
  · replace k := k.2 c2
    refine w_aload_n (q := 117) rfl rfl rfl ?_
    refine w_sipush (q := 120) rfl rfl rfl ?_
    refine w_callv (q := 123) rfl rfl rfl rfl rfl rfl ?_
    exact k
theorem b188_179 {xs : Nat → Int32} {xl : Nat} {I J : w_I} {b : Bool} {Q : Option Value → w_I → w_I → Bool → Prop} {l1 l3 l4 s0 : Int} {u2 u5 : Option Value} (k : ((-2147483648 ≤ s0 ∧ s0 < 2147483648) ∧ ((¬ s0 = 0 → ((0 ≤ l3 ∧ l3 < 800) ∧ ((l4 = 0 ∨ l4 = 1) ∧ w_C xs xl 179 [.ref 104, w_i 11] (w_U (w_U (w_U (w_U I 119 l3 (I 111 1)) 115 l3 l4) 120 l3 l1) 114 1 (I 114 1 + 1)) J b (fun v Ic Jc bc => w_T xs xl 188 227 [some (.ref 104), some (w_i l1), u2, some (w_i l3), some (w_i l4), u5] [] (w_pv v []) Ic Jc bc Q)))) ∧ (s0 = 0 → Q (some (w_i 0)) I J b)))) : w_T xs xl 188 179 [some (.ref 104), some (w_i l1), u2, some (w_i l3), some (w_i l4), u5] [] [w_i s0] I J b Q := by
  obtain ⟨h1, k⟩ := k
  refine w_zne (t := 184) (q := 182) rfl rfl rfl h1 (fun c2 => ?_) (fun c2 => ?_)
  · replace k := k.1 c2
    refine w_aload_n (q := 185) rfl rfl rfl ?_
    refine w_gfr (q := 188) rfl rfl rfl rfl (j := 119) rfl ?_
    refine w_iload_n (q := 189) rfl rfl rfl ?_
    refine w_aload_n (q := 190) rfl rfl rfl ?_
    refine w_gfr (q := 193) rfl rfl rfl rfl (j := 111) rfl ?_
    refine w_iconst (q := 194) rfl rfl ?_
    refine w_iald (q := 195) (n := 4) (v := I 111 1) rfl rfl rfl rfl rfl rfl (by decide) ?_
    obtain ⟨h3, k⟩ := k
    refine w_iast (q := 196) (n := 800) rfl rfl rfl rfl rfl h3 ?_
    refine w_aload_n (q := 197) rfl rfl rfl ?_
    refine w_gfr (q := 200) rfl rfl rfl rfl (j := 115) rfl ?_
    refine w_iload_n (q := 201) rfl rfl rfl ?_
    refine w_iload (q := 203) rfl rfl rfl ?_
    obtain ⟨h4, k⟩ := k
    refine w_bast2 (q := 204) (n := 800) rfl rfl rfl rfl rfl h4 h3 ?_
    refine w_aload_n (q := 205) rfl rfl rfl ?_
    refine w_gfr (q := 208) rfl rfl rfl rfl (j := 120) rfl ?_
    refine w_iload_n (q := 209) rfl rfl rfl ?_
    refine w_iload_n (q := 210) rfl rfl rfl ?_
    refine w_iast (q := 211) (n := 800) rfl rfl rfl rfl rfl h3 ?_
    refine w_aload_n (q := 212) rfl rfl rfl ?_
    refine w_gfr (q := 215) rfl rfl rfl rfl (j := 114) rfl ?_
    refine w_iconst (q := 216) rfl rfl ?_
    refine w_dup2 (q := 217) rfl rfl rfl rfl ?_
    refine w_iald (q := 218) (n := 4) (v := I 114 1) rfl rfl rfl rfl rfl rfl (by decide) ?_
    refine w_iconst (q := 219) rfl rfl ?_
    refine w_iadd (q := 220) rfl rfl ?_
    refine w_iast (q := 221) (n := 4) rfl rfl rfl rfl rfl (by decide) ?_
    refine w_aload_n (q := 222) rfl rfl rfl ?_
    refine w_bipush (q := 224) rfl rfl rfl ?_
    refine w_callv (q := 227) rfl rfl rfl rfl rfl rfl ?_
    exact k
  · replace k := k.2 c2
    refine w_iconst (q := 183) rfl rfl ?_
    refine w_iret rfl rfl k
theorem b188_123 {xs : Nat → Int32} {xl : Nat} {I J : w_I} {b : Bool} {Q : Option Value → w_I → w_I → Bool → Prop} {l1 l3 l4 s0 : Int} {u2 u5 : Option Value} (k : ((-2147483648 ≤ s0 ∧ s0 < 2147483648) ∧ ((¬ s0 = 0 → ((0 ≤ I 104 7 ∧ I 104 7 < 2001) ∧ ((0 ≤ l3 ∧ l3 < 800) ∧ w_C xs xl 177 [.ref 104] (w_U I 116 l3 (I 108 (I 104 7))) J b (fun v Ic Jc bc => w_T xs xl 188 172 [some (.ref 104), some (w_i l1), u2, some (w_i l3), some (w_i l4), some (w_i 1)] [] (w_pv v []) Ic Jc bc Q)))) ∧ (s0 = 0 → w_C xs xl 178 [.ref 104, w_i 60] I J b (fun v Ic Jc bc => w_T xs xl 188 132 [some (.ref 104), some (w_i l1), u2, some (w_i l3), some (w_i l4), u5] [] (w_pv v []) Ic Jc bc Q))))) : w_T xs xl 188 123 [some (.ref 104), some (w_i l1), u2, some (w_i l3), some (w_i l4), u5] [] [w_i s0] I J b Q := by
  obtain ⟨h1, k⟩ := k
  refine w_zne (t := 135) (q := 126) rfl rfl rfl h1 (fun c2 => ?_) (fun c2 => ?_)
  · replace k := k.1 c2
    refine w_iconst (q := 136) rfl rfl ?_
    refine w_goto (t := 140) rfl rfl ?_
    refine w_istore (q := 142) (L' := [some (.ref 104), some (w_i l1), u2, some (w_i l3), some (w_i l4), some (w_i 1)]) (M' := []) rfl rfl rfl rfl rfl ?_
    refine w_iload (q := 144) rfl rfl rfl ?_
    refine w_zne (t := 153) (q := 147) rfl rfl rfl (by decide) (fun _ => ?_) (fun w => absurd w (by decide))
    refine w_aload_n (q := 154) rfl rfl rfl ?_
    refine w_gfr (q := 157) rfl rfl rfl rfl (j := 116) rfl ?_
    refine w_iload_n (q := 158) rfl rfl rfl ?_
    refine w_aload_n (q := 159) rfl rfl rfl ?_
    refine w_gfr (q := 162) rfl rfl rfl rfl (j := 108) rfl ?_
    refine w_aload_n (q := 163) rfl rfl rfl ?_
    refine w_gfi (q := 166) (k' := 7) (v := I 104 7) rfl rfl rfl rfl rfl rfl rfl ?_
    obtain ⟨h3, k⟩ := k
    refine w_iald (q := 167) (n := 2001) (v := I 108 (I 104 7)) rfl rfl rfl rfl rfl rfl h3 ?_
    obtain ⟨h4, k⟩ := k
    refine w_iast (q := 168) (n := 800) rfl rfl rfl rfl rfl h4 ?_
    refine w_aload_n (q := 169) rfl rfl rfl ?_
    refine w_callv (q := 172) rfl rfl rfl rfl rfl rfl ?_
    exact k
  · replace k := k.2 c2
    refine w_aload_n (q := 127) rfl rfl rfl ?_
    refine w_bipush (q := 129) rfl rfl rfl ?_
    refine w_callv (q := 132) rfl rfl rfl rfl rfl rfl ?_
    exact k
theorem b188_227 {xs : Nat → Int32} {xl : Nat} {I J : w_I} {b : Bool} {Q : Option Value → w_I → w_I → Bool → Prop} {l1 s0 : Int} {u2 u3 u4 u5 : Option Value} (k : ((-2147483648 ≤ s0 ∧ s0 < 2147483648) ∧ ((¬ s0 = 0 → w_C xs xl 179 [.ref 104, w_i 12] I J b (fun v Ic Jc bc => w_T xs xl 188 251 [some (.ref 104), some (w_i l1), some (w_i 1), u3, u4, u5] [] (w_pv v []) Ic Jc bc Q)) ∧ (s0 = 0 → w_C xs xl 179 [.ref 104, w_i 12] I J b (fun v Ic Jc bc => w_T xs xl 188 236 [some (.ref 104), some (w_i l1), u2, u3, u4, u5] [] (w_pv v []) Ic Jc bc Q))))) : w_T xs xl 188 227 [some (.ref 104), some (w_i l1), u2, u3, u4, u5] [] [w_i s0] I J b Q := by
  obtain ⟨h1, k⟩ := k
  refine w_zne (t := 239) (q := 230) rfl rfl rfl h1 (fun c2 => ?_) (fun c2 => ?_)
  · replace k := k.1 c2
    refine w_iconst (q := 240) rfl rfl ?_
    refine w_goto (t := 244) rfl rfl ?_
    refine w_istore_n (q := 245) (L' := [some (.ref 104), some (w_i l1), some (w_i 1), u3, u4, u5]) (M' := []) rfl rfl rfl rfl rfl ?_
    refine w_aload_n (q := 246) rfl rfl rfl ?_
    refine w_bipush (q := 248) rfl rfl rfl ?_
    refine w_callv (q := 251) rfl rfl rfl rfl rfl rfl ?_
    exact k
  · replace k := k.2 c2
    refine w_aload_n (q := 231) rfl rfl rfl ?_
    refine w_bipush (q := 233) rfl rfl rfl ?_
    refine w_callv (q := 236) rfl rfl rfl rfl rfl rfl ?_
    exact k
theorem b188_132 {xs : Nat → Int32} {xl : Nat} {I J : w_I} {b : Bool} {Q : Option Value → w_I → w_I → Bool → Prop} {l1 l3 l4 s0 : Int} {u2 u5 : Option Value} (k : ((-2147483648 ≤ s0 ∧ s0 < 2147483648) ∧ ((s0 = 0 → w_C xs xl 175 [.ref 104, w_i 1] I J b (fun v Ic Jc bc => w_T xs xl 188 152 [some (.ref 104), some (w_i l1), u2, some (w_i l3), some (w_i l4), some (w_i 0)] [] (w_pv v []) Ic Jc bc Q)) ∧ (¬ s0 = 0 → ((0 ≤ I 104 7 ∧ I 104 7 < 2001) ∧ ((0 ≤ l3 ∧ l3 < 800) ∧ w_C xs xl 177 [.ref 104] (w_U I 116 l3 (I 108 (I 104 7))) J b (fun v Ic Jc bc => w_T xs xl 188 172 [some (.ref 104), some (w_i l1), u2, some (w_i l3), some (w_i l4), some (w_i 1)] [] (w_pv v []) Ic Jc bc Q))))))) : w_T xs xl 188 132 [some (.ref 104), some (w_i l1), u2, some (w_i l3), some (w_i l4), u5] [] [w_i s0] I J b Q := by
  obtain ⟨h1, k⟩ := k
  refine w_zeq (t := 139) (q := 135) rfl rfl rfl h1 (fun c2 => ?_) (fun c2 => ?_)
  · replace k := k.1 c2
    refine w_iconst (q := 140) rfl rfl ?_
    refine w_istore (q := 142) (L' := [some (.ref 104), some (w_i l1), u2, some (w_i l3), some (w_i l4), some (w_i 0)]) (M' := []) rfl rfl rfl rfl rfl ?_
    refine w_iload (q := 144) rfl rfl rfl ?_
    refine w_zne (t := 153) (q := 147) rfl rfl rfl (by decide) (fun w => absurd w (by decide)) (fun _ => ?_)
    refine w_aload_n (q := 148) rfl rfl rfl ?_
    refine w_iconst (q := 149) rfl rfl ?_
    refine w_callv (q := 152) rfl rfl rfl rfl rfl rfl ?_
    exact k
  · replace k := k.2 c2
    refine w_iconst (q := 136) rfl rfl ?_
    refine w_goto (t := 140) rfl rfl ?_
    refine w_istore (q := 142) (L' := [some (.ref 104), some (w_i l1), u2, some (w_i l3), some (w_i l4), some (w_i 1)]) (M' := []) rfl rfl rfl rfl rfl ?_
    refine w_iload (q := 144) rfl rfl rfl ?_
    refine w_zne (t := 153) (q := 147) rfl rfl rfl (by decide) (fun _ => ?_) (fun w => absurd w (by decide))
    refine w_aload_n (q := 154) rfl rfl rfl ?_
    refine w_gfr (q := 157) rfl rfl rfl rfl (j := 116) rfl ?_
    refine w_iload_n (q := 158) rfl rfl rfl ?_
    refine w_aload_n (q := 159) rfl rfl rfl ?_
    refine w_gfr (q := 162) rfl rfl rfl rfl (j := 108) rfl ?_
    refine w_aload_n (q := 163) rfl rfl rfl ?_
    refine w_gfi (q := 166) (k' := 7) (v := I 104 7) rfl rfl rfl rfl rfl rfl rfl ?_
    obtain ⟨h3, k⟩ := k
    refine w_iald (q := 167) (n := 2001) (v := I 108 (I 104 7)) rfl rfl rfl rfl rfl rfl h3 ?_
    obtain ⟨h4, k⟩ := k
    refine w_iast (q := 168) (n := 800) rfl rfl rfl rfl rfl h4 ?_
    refine w_aload_n (q := 169) rfl rfl rfl ?_
    refine w_callv (q := 172) rfl rfl rfl rfl rfl rfl ?_
    exact k
theorem b188_251 {xs : Nat → Int32} {xl : Nat} {I J : w_I} {b : Bool} {Q : Option Value → w_I → w_I → Bool → Prop} {l1 l2 s0 : Int} {u3 u4 u5 : Option Value} (k : ((-2147483648 ≤ s0 ∧ s0 < 2147483648) ∧ ((s0 = 0 → ((-2147483648 ≤ l2 ∧ l2 < 2147483648) ∧ ((l2 = 0 → w_T xs xl 188 14 [some (.ref 104), some (w_i l1), some (w_i l2), u3, u4, u5] [] [] I J b Q) ∧ (¬ l2 = 0 → w_C xs xl 177 [.ref 104] I J b (fun v Ic Jc bc => w_T xs xl 188 265 [some (.ref 104), some (w_i l1), some (w_i l2), u3, u4, u5] [] (w_pv v []) Ic Jc bc Q))))) ∧ (¬ s0 = 0 → ((-2147483648 ≤ l2 ∧ l2 < 2147483648) ∧ ((l2 = 0 → w_T xs xl 188 14 [some (.ref 104), some (w_i (l1 + 1)), some (w_i l2), u3, u4, u5] [] [] I J b Q) ∧ (¬ l2 = 0 → w_C xs xl 177 [.ref 104] I J b (fun v Ic Jc bc => w_T xs xl 188 265 [some (.ref 104), some (w_i (l1 + 1)), some (w_i l2), u3, u4, u5] [] (w_pv v []) Ic Jc bc Q)))))))) : w_T xs xl 188 251 [some (.ref 104), some (w_i l1), some (w_i l2), u3, u4, u5] [] [w_i s0] I J b Q := by
  obtain ⟨h1, k⟩ := k
  refine w_zeq (t := 257) (q := 254) rfl rfl rfl h1 (fun c2 => ?_) (fun c2 => ?_)
  · replace k := k.1 c2
    refine w_iload_n (q := 258) rfl rfl rfl ?_
    obtain ⟨h3, k⟩ := k
    refine w_zeq (t := 270) (q := 261) rfl rfl rfl h3 (fun c4 => ?_) (fun c4 => ?_)
    · replace k := k.1 c4
      refine w_goto (t := 14) rfl rfl ?_
      exact k
    · replace k := k.2 c4
      refine w_aload_n (q := 262) rfl rfl rfl ?_
      refine w_callv (q := 265) rfl rfl rfl rfl rfl rfl ?_
      exact k
  · replace k := k.2 c2
    refine w_iinc (q := 257) (L' := [some (.ref 104), some (w_i (l1 + 1)), some (w_i l2), u3, u4, u5]) (M' := []) rfl rfl rfl rfl rfl rfl ?_
    refine w_iload_n (q := 258) rfl rfl rfl ?_
    obtain ⟨h5, k⟩ := k
    refine w_zeq (t := 270) (q := 261) rfl rfl rfl h5 (fun c6 => ?_) (fun c6 => ?_)
    · replace k := k.1 c6
      refine w_goto (t := 14) rfl rfl ?_
      exact k
    · replace k := k.2 c6
      refine w_aload_n (q := 262) rfl rfl rfl ?_
      refine w_callv (q := 265) rfl rfl rfl rfl rfl rfl ?_
      exact k
theorem b188_236 {xs : Nat → Int32} {xl : Nat} {I J : w_I} {b : Bool} {Q : Option Value → w_I → w_I → Bool → Prop} {l1 s0 : Int} {u2 u3 u4 u5 : Option Value} (k : ((-2147483648 ≤ s0 ∧ s0 < 2147483648) ∧ ((s0 = 0 → w_C xs xl 179 [.ref 104, w_i 12] I J b (fun v Ic Jc bc => w_T xs xl 188 251 [some (.ref 104), some (w_i l1), some (w_i 0), u3, u4, u5] [] (w_pv v []) Ic Jc bc Q)) ∧ (¬ s0 = 0 → w_C xs xl 179 [.ref 104, w_i 12] I J b (fun v Ic Jc bc => w_T xs xl 188 251 [some (.ref 104), some (w_i l1), some (w_i 1), u3, u4, u5] [] (w_pv v []) Ic Jc bc Q))))) : w_T xs xl 188 236 [some (.ref 104), some (w_i l1), u2, u3, u4, u5] [] [w_i s0] I J b Q := by
  obtain ⟨h1, k⟩ := k
  refine w_zeq (t := 243) (q := 239) rfl rfl rfl h1 (fun c2 => ?_) (fun c2 => ?_)
  · replace k := k.1 c2
    refine w_iconst (q := 244) rfl rfl ?_
    refine w_istore_n (q := 245) (L' := [some (.ref 104), some (w_i l1), some (w_i 0), u3, u4, u5]) (M' := []) rfl rfl rfl rfl rfl ?_
    refine w_aload_n (q := 246) rfl rfl rfl ?_
    refine w_bipush (q := 248) rfl rfl rfl ?_
    refine w_callv (q := 251) rfl rfl rfl rfl rfl rfl ?_
    exact k
  · replace k := k.2 c2
    refine w_iconst (q := 240) rfl rfl ?_
    refine w_goto (t := 244) rfl rfl ?_
    refine w_istore_n (q := 245) (L' := [some (.ref 104), some (w_i l1), some (w_i 1), u3, u4, u5]) (M' := []) rfl rfl rfl rfl rfl ?_
    refine w_aload_n (q := 246) rfl rfl rfl ?_
    refine w_bipush (q := 248) rfl rfl rfl ?_
    refine w_callv (q := 251) rfl rfl rfl rfl rfl rfl ?_
    exact k
theorem b188_152 {xs : Nat → Int32} {xl : Nat} {I J : w_I} {b : Bool} {Q : Option Value → w_I → w_I → Bool → Prop} {u1 u2 u3 u4 u5 : Option Value} {s0 : Int} (k : ((s0 = 0 ∨ s0 = 1) ∧ Q (some (w_i s0)) I J b)) : w_T xs xl 188 152 [some (.ref 104), u1, u2, u3, u4, u5] [] [w_i s0] I J b Q := by
  obtain ⟨h1, k⟩ := k
  refine w_iret rfl (w_nz1 h1) k
theorem b188_265 {xs : Nat → Int32} {xl : Nat} {I J : w_I} {b : Bool} {Q : Option Value → w_I → w_I → Bool → Prop} {l1 l2 s0 : Int} {u3 u4 u5 : Option Value} (k : ((-2147483648 ≤ s0 ∧ s0 < 2147483648) ∧ ((¬ s0 = 0 → w_T xs xl 188 14 [some (.ref 104), some (w_i l1), some (w_i l2), u3, u4, u5] [] [] I J b Q) ∧ (s0 = 0 → Q (some (w_i 0)) I J b)))) : w_T xs xl 188 265 [some (.ref 104), some (w_i l1), some (w_i l2), u3, u4, u5] [] [w_i s0] I J b Q := by
  obtain ⟨h1, k⟩ := k
  refine w_zne (t := 270) (q := 268) rfl rfl rfl h1 (fun c2 => ?_) (fun c2 => ?_)
  · replace k := k.1 c2
    refine w_goto (t := 14) rfl rfl ?_
    exact k
  · replace k := k.2 c2
    refine w_iconst (q := 269) rfl rfl ?_
    refine w_iret rfl rfl k
theorem e189 {xs : Nat → Int32} {xl : Nat} {I J : w_I} {b : Bool} {Q : Option Value → w_I → w_I → Bool → Prop} {a1 : Int} (t : w_T xs xl 189 0 [some (.ref 104), some (w_i a1)] [] [] I J b Q) : w_C xs xl 189 [.ref 104, w_i a1] I J b Q := w_en rfl t
theorem b189_0 {xs : Nat → Int32} {xl : Nat} {I J : w_I} {b : Bool} {Q : Option Value → w_I → w_I → Bool → Prop} {a1 : Int} (k : ((0 ≤ 700 + a1 ∧ 700 + a1 < 2800) ∧ Q (some (w_i (I 110 (700 + a1)))) I J b)) : w_T xs xl 189 0 [some (.ref 104), some (w_i a1)] [] [] I J b Q := by
  refine w_aload_n (q := 1) rfl rfl rfl ?_
  refine w_gfr (q := 4) rfl rfl rfl rfl (j := 110) rfl ?_
  refine w_sipush (q := 7) rfl rfl rfl ?_
  refine w_iload_n (q := 8) rfl rfl rfl ?_
  refine w_iadd (q := 9) rfl rfl ?_
  obtain ⟨h1, k⟩ := k
  refine w_iald (q := 10) (n := 2800) (v := I 110 (700 + a1)) rfl rfl rfl rfl rfl rfl h1 ?_
  exact w_iret rfl rfl k
theorem e190 {xs : Nat → Int32} {xl : Nat} {I J : w_I} {b : Bool} {Q : Option Value → w_I → w_I → Bool → Prop} {a1 a2 : Int} (t : w_T xs xl 190 0 [some (.ref 104), some (w_i a1), some (w_i a2)] [] [] I J b Q) : w_C xs xl 190 [.ref 104, w_i a1, w_i a2] I J b Q := w_en rfl t
theorem b190_0 {xs : Nat → Int32} {xl : Nat} {I J : w_I} {b : Bool} {Q : Option Value → w_I → w_I → Bool → Prop} {a1 a2 : Int} (k : ((0 ≤ 700 + a1 ∧ 700 + a1 < 2800) ∧ Q none (w_U I 110 (700 + a1) a2) J b)) : w_T xs xl 190 0 [some (.ref 104), some (w_i a1), some (w_i a2)] [] [] I J b Q := by
  refine w_aload_n (q := 1) rfl rfl rfl ?_
  refine w_gfr (q := 4) rfl rfl rfl rfl (j := 110) rfl ?_
  refine w_sipush (q := 7) rfl rfl rfl ?_
  refine w_iload_n (q := 8) rfl rfl rfl ?_
  refine w_iadd (q := 9) rfl rfl ?_
  refine w_iload_n (q := 10) rfl rfl rfl ?_
  obtain ⟨h1, k⟩ := k
  refine w_iast (q := 11) (n := 2800) rfl rfl rfl rfl rfl h1 ?_
  exact w_vret rfl k
theorem e191 {xs : Nat → Int32} {xl : Nat} {I J : w_I} {b : Bool} {Q : Option Value → w_I → w_I → Bool → Prop} {a1 : Int} (t : w_T xs xl 191 0 [some (.ref 104), some (w_i a1), none] [] [] I J b Q) : w_C xs xl 191 [.ref 104, w_i a1] I J b Q := w_en rfl t
theorem b191_0 {xs : Nat → Int32} {xl : Nat} {I J : w_I} {b : Bool} {Q : Option Value → w_I → w_I → Bool → Prop} {a1 : Int} (k : w_T xs xl 191 2 [some (.ref 104), some (w_i a1), some (w_i 0)] [] [] I J b Q) : w_T xs xl 191 0 [some (.ref 104), some (w_i a1), none] [] [] I J b Q := by
  refine w_iconst (q := 1) rfl rfl ?_
  refine w_istore_n (q := 2) (L' := [some (.ref 104), some (w_i a1), some (w_i 0)]) (M' := []) rfl rfl rfl rfl rfl ?_
  exact k
theorem b191_2 {xs : Nat → Int32} {xl : Nat} {I J : w_I} {b : Bool} {Q : Option Value → w_I → w_I → Bool → Prop} {l1 l2 : Int} (k : ((-2147483648 ≤ l2 ∧ l2 < 2147483648) ∧ ((700 ≤ l2 → ((0 ≤ 700 * l1 + 1 ∧ 700 * l1 + 1 < 2800) ∧ ((0 ≤ 700 * l1 + 2 ∧ 700 * l1 + 2 < 2800) ∧ w_T xs xl 191 56 [some (.ref 104), some (w_i l1), some (w_i 0)] [] [] (w_U (w_U I 110 (700 * l1 + 1) 1) 110 (700 * l1 + 2) 3) J b Q))) ∧ (¬ 700 ≤ l2 → ((0 ≤ 700 * l1 + l2 ∧ 700 * l1 + l2 < 2800) ∧ w_T xs xl 191 2 [some (.ref 104), some (w_i l1), some (w_i (l2 + 1))] [] [] (w_U I 110 (700 * l1 + l2) 0) J b Q))))) : w_T xs xl 191 2 [some (.ref 104), some (w_i l1), some (w_i l2)] [] [] I J b Q := by
  refine w_iload_n (q := 3) rfl rfl rfl ?_
  refine w_sipush (q := 6) rfl rfl rfl ?_
  obtain ⟨h1, k⟩ := k
  refine w_cge (t := 28) (q := 9) rfl rfl rfl h1 (by decide) (fun c2 => ?_) (fun c2 => ?_)
  · replace k := k.1 c2
    refine w_aload_n (q := 29) rfl rfl rfl ?_
    refine w_gfr (q := 32) rfl rfl rfl rfl (j := 110) rfl ?_
    refine w_sipush (q := 35) rfl rfl rfl ?_
    refine w_iload_n (q := 36) rfl rfl rfl ?_
    refine w_imul (q := 37) rfl rfl ?_
    refine w_iconst (q := 38) rfl rfl ?_
    refine w_iadd (q := 39) rfl rfl ?_
    refine w_iconst (q := 40) rfl rfl ?_
    obtain ⟨h3, k⟩ := k
    refine w_iast (q := 41) (n := 2800) rfl rfl rfl rfl rfl h3 ?_
    refine w_aload_n (q := 42) rfl rfl rfl ?_
    refine w_gfr (q := 45) rfl rfl rfl rfl (j := 110) rfl ?_
    refine w_sipush (q := 48) rfl rfl rfl ?_
    refine w_iload_n (q := 49) rfl rfl rfl ?_
    refine w_imul (q := 50) rfl rfl ?_
    refine w_iconst (q := 51) rfl rfl ?_
    refine w_iadd (q := 52) rfl rfl ?_
    refine w_iconst (q := 53) rfl rfl ?_
    obtain ⟨h4, k⟩ := k
    refine w_iast (q := 54) (n := 2800) rfl rfl rfl rfl rfl h4 ?_
    refine w_iconst (q := 55) rfl rfl ?_
    refine w_istore_n (q := 56) (L' := [some (.ref 104), some (w_i l1), some (w_i 0)]) (M' := []) rfl rfl rfl rfl rfl ?_
    exact k
  · replace k := k.2 c2
    refine w_aload_n (q := 10) rfl rfl rfl ?_
    refine w_gfr (q := 13) rfl rfl rfl rfl (j := 110) rfl ?_
    refine w_sipush (q := 16) rfl rfl rfl ?_
    refine w_iload_n (q := 17) rfl rfl rfl ?_
    refine w_imul (q := 18) rfl rfl ?_
    refine w_iload_n (q := 19) rfl rfl rfl ?_
    refine w_iadd (q := 20) rfl rfl ?_
    refine w_iconst (q := 21) rfl rfl ?_
    obtain ⟨h5, k⟩ := k
    refine w_iast (q := 22) (n := 2800) rfl rfl rfl rfl rfl h5 ?_
    refine w_iinc (q := 25) (L' := [some (.ref 104), some (w_i l1), some (w_i (l2 + 1))]) (M' := []) rfl rfl rfl rfl rfl rfl ?_
    refine w_goto (t := 2) rfl rfl ?_
    exact k
theorem b191_56 {xs : Nat → Int32} {xl : Nat} {I J : w_I} {b : Bool} {Q : Option Value → w_I → w_I → Bool → Prop} {l1 l2 : Int} (k : ((-2147483648 ≤ l2 ∧ l2 < 2147483648) ∧ ((8 ≤ l2 → ((0 ≤ l1 ∧ l1 < 4) ∧ Q none (w_U (w_U I 111 l1 0) 114 l1 0) J b)) ∧ (¬ 8 ≤ l2 → ((0 ≤ 700 * l1 + 11 + l2 ∧ 700 * l1 + 11 + l2 < 2800) ∧ w_T xs xl 191 56 [some (.ref 104), some (w_i l1), some (w_i (l2 + 1))] [] [] (w_U I 110 (700 * l1 + 11 + l2) (-1)) J b Q))))) : w_T xs xl 191 56 [some (.ref 104), some (w_i l1), some (w_i l2)] [] [] I J b Q := by
  refine w_iload_n (q := 57) rfl rfl rfl ?_
  refine w_bipush (q := 59) rfl rfl rfl ?_
  obtain ⟨h1, k⟩ := k
  refine w_cge (t := 84) (q := 62) rfl rfl rfl h1 (by decide) (fun c2 => ?_) (fun c2 => ?_)
  · replace k := k.1 c2
    refine w_aload_n (q := 85) rfl rfl rfl ?_
    refine w_gfr (q := 88) rfl rfl rfl rfl (j := 111) rfl ?_
    refine w_iload_n (q := 89) rfl rfl rfl ?_
    refine w_iconst (q := 90) rfl rfl ?_
    obtain ⟨h3, k⟩ := k
    refine w_iast (q := 91) (n := 4) rfl rfl rfl rfl rfl h3 ?_
    refine w_aload_n (q := 92) rfl rfl rfl ?_
    refine w_gfr (q := 95) rfl rfl rfl rfl (j := 114) rfl ?_
    refine w_iload_n (q := 96) rfl rfl rfl ?_
    refine w_iconst (q := 97) rfl rfl ?_
    refine w_iast (q := 98) (n := 4) rfl rfl rfl rfl rfl h3 ?_
    exact w_vret rfl k
  · replace k := k.2 c2
    refine w_aload_n (q := 63) rfl rfl rfl ?_
    refine w_gfr (q := 66) rfl rfl rfl rfl (j := 110) rfl ?_
    refine w_sipush (q := 69) rfl rfl rfl ?_
    refine w_iload_n (q := 70) rfl rfl rfl ?_
    refine w_imul (q := 71) rfl rfl ?_
    refine w_bipush (q := 73) rfl rfl rfl ?_
    refine w_iadd (q := 74) rfl rfl ?_
    refine w_iload_n (q := 75) rfl rfl rfl ?_
    refine w_iadd (q := 76) rfl rfl ?_
    refine w_iconst (q := 77) rfl rfl ?_
    obtain ⟨h4, k⟩ := k
    refine w_iast (q := 78) (n := 2800) rfl rfl rfl rfl rfl h4 ?_
    refine w_iinc (q := 81) (L' := [some (.ref 104), some (w_i l1), some (w_i (l2 + 1))]) (M' := []) rfl rfl rfl rfl rfl rfl ?_
    refine w_goto (t := 56) rfl rfl ?_
    exact k
end
