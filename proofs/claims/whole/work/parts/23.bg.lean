section
theorem e226 {xs : Nat → Int32} {xl : Nat} {I J : w_I} {b : Bool} {Q : Option Value → w_I → w_I → Bool → Prop} {a1 a2 : Int} (t : w_T xs xl 226 0 [some (.ref 104), some (w_i a1), some (w_i a2)] [] [] I J b Q) : w_C xs xl 226 [.ref 104, w_i a1, w_i a2] I J b Q := w_en rfl t
theorem b226_0 {xs : Nat → Int32} {xl : Nat} {I J : w_I} {b : Bool} {Q : Option Value → w_I → w_I → Bool → Prop} {a1 a2 : Int} (k : w_C xs xl 210 [.ref 104, w_i a1] I J b (fun v Ic Jc bc => w_T xs xl 226 5 [some (.ref 104), some (w_i a1), some (w_i a2)] [] (w_pv v []) Ic Jc bc Q)) : w_T xs xl 226 0 [some (.ref 104), some (w_i a1), some (w_i a2)] [] [] I J b Q := by
  refine w_aload_n (q := 1) rfl rfl rfl ?_
  refine w_iload_n (q := 2) rfl rfl rfl ?_
  refine w_callv (q := 5) rfl rfl rfl rfl rfl rfl ?_
  exact k
theorem b226_5 {xs : Nat → Int32} {xl : Nat} {I J : w_I} {b : Bool} {Q : Option Value → w_I → w_I → Bool → Prop} {l1 l2 s0 : Int} (k : ((-2147483648 ≤ s0 ∧ s0 < 2147483648) ∧ ((¬ s0 = 0 → ((-2147483648 ≤ l2 ∧ l2 < 2147483648) ∧ ((l2 = 0 → w_C xs xl 215 [.ref 104, w_i l1, w_i 1] I J b (fun v Ic Jc bc => w_T xs xl 226 46 [some (.ref 104), some (w_i l1), some (w_i l2)] [] (w_pv v []) Ic Jc bc Q)) ∧ (¬ l2 = 0 → ((l2 = 1 → w_C xs xl 215 [.ref 104, w_i l1, w_i 0] I J b (fun v Ic Jc bc => w_T xs xl 226 53 [some (.ref 104), some (w_i l1), some (w_i l2)] [] (w_pv v []) Ic Jc bc Q)) ∧ (¬ l2 = 1 → ((l2 = 2 → ((0 ≤ 100 + 6 * l1 + 3 ∧ 100 + 6 * l1 + 3 < 2800) ∧ Q (some (w_i (I 110 (100 + 6 * l1 + 3)))) I J b)) ∧ (¬ l2 = 2 → ((l2 = 3 → ((0 ≤ 100 + 6 * l1 + 5 ∧ 100 + 6 * l1 + 5 < 2800) ∧ Q (some (w_i (I 110 (100 + 6 * l1 + 5)))) I J b)) ∧ (¬ l2 = 3 → Q (some (w_i (-1))) I J b)))))))))) ∧ (s0 = 0 → Q (some (w_i (-1))) I J b)))) : w_T xs xl 226 5 [some (.ref 104), some (w_i l1), some (w_i l2)] [] [w_i s0] I J b Q := by
  obtain ⟨h1, k⟩ := k
  refine w_zne (t := 10) (q := 8) rfl rfl rfl h1 (fun c2 => ?_) (fun c2 => ?_)
  · replace k := k.1 c2
    refine w_iload_n (q := 11) rfl rfl rfl ?_
    obtain ⟨h3, k⟩ := k
    rcases Decidable.em (l2 = 0) with c4 | c4
    · replace k := k.1 c4
      refine w_tsw (t := 40) rfl h3 (by rw [c4]; rfl) ?_
      refine w_aload_n (q := 41) rfl rfl rfl ?_
      refine w_iload_n (q := 42) rfl rfl rfl ?_
      refine w_iconst (q := 43) rfl rfl ?_
      refine w_callv (q := 46) rfl rfl rfl rfl rfl rfl ?_
      exact k
    · replace k := k.2 c4
      rcases Decidable.em (l2 = 1) with c5 | c5
      · replace k := k.1 c5
        refine w_tsw (t := 47) rfl h3 (by rw [c5]; rfl) ?_
        refine w_aload_n (q := 48) rfl rfl rfl ?_
        refine w_iload_n (q := 49) rfl rfl rfl ?_
        refine w_iconst (q := 50) rfl rfl ?_
        refine w_callv (q := 53) rfl rfl rfl rfl rfl rfl ?_
        exact k
      · replace k := k.2 c5
        rcases Decidable.em (l2 = 2) with c6 | c6
        · replace k := k.1 c6
          refine w_tsw (t := 54) rfl h3 (by rw [c6]; rfl) ?_
          refine w_aload_n (q := 55) rfl rfl rfl ?_
          refine w_gfr (q := 58) rfl rfl rfl rfl (j := 110) rfl ?_
          refine w_bipush (q := 60) rfl rfl rfl ?_
          refine w_bipush (q := 62) rfl rfl rfl ?_
          refine w_iload_n (q := 63) rfl rfl rfl ?_
          refine w_imul (q := 64) rfl rfl ?_
          refine w_iadd (q := 65) rfl rfl ?_
          refine w_iconst (q := 66) rfl rfl ?_
          refine w_iadd (q := 67) rfl rfl ?_
          obtain ⟨h7, k⟩ := k
          refine w_iald (q := 68) (n := 2800) (v := I 110 (100 + 6 * l1 + 3)) rfl rfl rfl rfl rfl rfl h7 ?_
          exact w_iret rfl rfl k
        · replace k := k.2 c6
          rcases Decidable.em (l2 = 3) with c8 | c8
          · replace k := k.1 c8
            refine w_tsw (t := 69) rfl h3 (by rw [c8]; rfl) ?_
            refine w_aload_n (q := 70) rfl rfl rfl ?_
            refine w_gfr (q := 73) rfl rfl rfl rfl (j := 110) rfl ?_
            refine w_bipush (q := 75) rfl rfl rfl ?_
            refine w_bipush (q := 77) rfl rfl rfl ?_
            refine w_iload_n (q := 78) rfl rfl rfl ?_
            refine w_imul (q := 79) rfl rfl ?_
            refine w_iadd (q := 80) rfl rfl ?_
            refine w_iconst (q := 81) rfl rfl ?_
            refine w_iadd (q := 82) rfl rfl ?_
            obtain ⟨h9, k⟩ := k
            refine w_iald (q := 83) (n := 2800) (v := I 110 (100 + 6 * l1 + 5)) rfl rfl rfl rfl rfl rfl h9 ?_
            exact w_iret rfl rfl k
          · replace k := k.2 c8
            have hd : l2 < 0 ∨ 3 < l2 := by omega
            refine w_tsw (t := 84) rfl h3 (by rw [if_pos hd]; rfl) ?_
            refine w_iconst (q := 85) rfl rfl ?_
            exact w_iret rfl rfl k
  · replace k := k.2 c2
    refine w_iconst (q := 9) rfl rfl ?_
    exact w_iret rfl rfl k
theorem b226_46 {xs : Nat → Int32} {xl : Nat} {I J : w_I} {b : Bool} {Q : Option Value → w_I → w_I → Bool → Prop} {u1 u2 : Option Value} {s0 : Int} (k : Q (some (w_i s0)) I J b) : w_T xs xl 226 46 [some (.ref 104), u1, u2] [] [w_i s0] I J b Q := by
  exact w_iret rfl rfl k
theorem b226_53 {xs : Nat → Int32} {xl : Nat} {I J : w_I} {b : Bool} {Q : Option Value → w_I → w_I → Bool → Prop} {u1 u2 : Option Value} {s0 : Int} (k : Q (some (w_i s0)) I J b) : w_T xs xl 226 53 [some (.ref 104), u1, u2] [] [w_i s0] I J b Q := by
  exact w_iret rfl rfl k
theorem e227 {xs : Nat → Int32} {xl : Nat} {I J : w_I} {b : Bool} {Q : Option Value → w_I → w_I → Bool → Prop} {a1 a2 : Int} (t : w_T xs xl 227 0 [some (.ref 104), some (w_i a1), some (w_i a2)] [] [] I J b Q) : w_C xs xl 227 [.ref 104, w_i a1, w_i a2] I J b Q := w_en rfl t
theorem b227_0 {xs : Nat → Int32} {xl : Nat} {I J : w_I} {b : Bool} {Q : Option Value → w_I → w_I → Bool → Prop} {a1 a2 : Int} (k : w_C xs xl 211 [.ref 104, w_i a1] I J b (fun v Ic Jc bc => w_T xs xl 227 5 [some (.ref 104), some (w_i a1), some (w_i a2)] [] (w_pv v []) Ic Jc bc Q)) : w_T xs xl 227 0 [some (.ref 104), some (w_i a1), some (w_i a2)] [] [] I J b Q := by
  refine w_aload_n (q := 1) rfl rfl rfl ?_
  refine w_iload_n (q := 2) rfl rfl rfl ?_
  refine w_callv (q := 5) rfl rfl rfl rfl rfl rfl ?_
  exact k
theorem b227_5 {xs : Nat → Int32} {xl : Nat} {I J : w_I} {b : Bool} {Q : Option Value → w_I → w_I → Bool → Prop} {l1 l2 s0 : Int} (k : ((-2147483648 ≤ s0 ∧ s0 < 2147483648) ∧ ((¬ s0 = 0 → w_C xs xl 217 [.ref 104, w_i l1] I J b (fun v Ic Jc bc => w_T xs xl 227 15 [some (.ref 104), some (w_i l1), some (w_i l2)] [] (w_pv v []) Ic Jc bc Q)) ∧ (s0 = 0 → Q (some (w_i (-1))) I J b)))) : w_T xs xl 227 5 [some (.ref 104), some (w_i l1), some (w_i l2)] [] [w_i s0] I J b Q := by
  obtain ⟨h1, k⟩ := k
  refine w_zne (t := 10) (q := 8) rfl rfl rfl h1 (fun c2 => ?_) (fun c2 => ?_)
  · replace k := k.1 c2
    refine w_aload_n (q := 11) rfl rfl rfl ?_
    refine w_iload_n (q := 12) rfl rfl rfl ?_
    refine w_callv (q := 15) rfl rfl rfl rfl rfl rfl ?_
    exact k
  · replace k := k.2 c2
    refine w_iconst (q := 9) rfl rfl ?_
    exact w_iret rfl rfl k
theorem b227_15 {xs : Nat → Int32} {xl : Nat} {I J : w_I} {b : Bool} {Q : Option Value → w_I → w_I → Bool → Prop} {l1 l2 : Int} (k : ((-2147483648 ≤ l2 ∧ l2 < 2147483648) ∧ ((l2 = 0 → Q (some (w_i (I 104 33))) I J b) ∧ (¬ l2 = 0 → ((l2 = 1 → Q (some (w_i (I 104 35))) I J b) ∧ (¬ l2 = 1 → ((l2 = 2 → (((0 : Int) ≤ I 104 35 ∧ I 104 35 < 2147483648 ∧ (0 : Int) < I 110 1 ∧ I 110 1 < (2147483648 : Int)) ∧ Q (some (w_i (I 104 35 / I 110 1))) I J b)) ∧ (¬ l2 = 2 → ((l2 = 3 → w_C xs xl 213 [.ref 104, w_i l1] I J b (fun v Ic Jc bc => w_T xs xl 227 83 [some (.ref 104), some (w_i l1), some (w_i l2)] [] (w_pv v []) Ic Jc bc Q)) ∧ (¬ l2 = 3 → ((l2 = 4 → ((0 ≤ 460 + 3 * l1 + 2 ∧ 460 + 3 * l1 + 2 < 2800) ∧ Q (some (w_i (I 110 (460 + 3 * l1 + 2)))) I J b)) ∧ (¬ l2 = 4 → ((l2 = 5 → Q (some (w_i (I 104 34))) I J b) ∧ (¬ l2 = 5 → Q (some (w_i (-1))) I J b)))))))))))))) : w_T xs xl 227 15 [some (.ref 104), some (w_i l1), some (w_i l2)] [] [] I J b Q := by
  refine w_iload_n (q := 16) rfl rfl rfl ?_
  obtain ⟨h1, k⟩ := k
  rcases Decidable.em (l2 = 0) with c2 | c2
  · replace k := k.1 c2
    refine w_tsw (t := 56) rfl h1 (by rw [c2]; rfl) ?_
    refine w_aload_n (q := 57) rfl rfl rfl ?_
    refine w_gfi (q := 60) (k' := 33) (v := I 104 33) rfl rfl rfl rfl rfl rfl rfl ?_
    exact w_iret rfl rfl k
  · replace k := k.2 c2
    rcases Decidable.em (l2 = 1) with c3 | c3
    · replace k := k.1 c3
      refine w_tsw (t := 61) rfl h1 (by rw [c3]; rfl) ?_
      refine w_aload_n (q := 62) rfl rfl rfl ?_
      refine w_gfi (q := 65) (k' := 35) (v := I 104 35) rfl rfl rfl rfl rfl rfl rfl ?_
      exact w_iret rfl rfl k
    · replace k := k.2 c3
      rcases Decidable.em (l2 = 2) with c4 | c4
      · replace k := k.1 c4
        refine w_tsw (t := 66) rfl h1 (by rw [c4]; rfl) ?_
        refine w_aload_n (q := 67) rfl rfl rfl ?_
        refine w_gfi (q := 70) (k' := 35) (v := I 104 35) rfl rfl rfl rfl rfl rfl rfl ?_
        refine w_aload_n (q := 71) rfl rfl rfl ?_
        refine w_gfr (q := 74) rfl rfl rfl rfl (j := 110) rfl ?_
        refine w_iconst (q := 75) rfl rfl ?_
        refine w_iald (q := 76) (n := 2800) (v := I 110 1) rfl rfl rfl rfl rfl rfl (by decide) ?_
        obtain ⟨h5, k⟩ := k
        refine w_idiv (q := 77) rfl rfl h5 ?_
        exact w_iret rfl rfl k
      · replace k := k.2 c4
        rcases Decidable.em (l2 = 3) with c6 | c6
        · replace k := k.1 c6
          refine w_tsw (t := 78) rfl h1 (by rw [c6]; rfl) ?_
          refine w_aload_n (q := 79) rfl rfl rfl ?_
          refine w_iload_n (q := 80) rfl rfl rfl ?_
          refine w_callv (q := 83) rfl rfl rfl rfl rfl rfl ?_
          exact k
        · replace k := k.2 c6
          rcases Decidable.em (l2 = 4) with c7 | c7
          · replace k := k.1 c7
            refine w_tsw (t := 84) rfl h1 (by rw [c7]; rfl) ?_
            refine w_aload_n (q := 85) rfl rfl rfl ?_
            refine w_gfr (q := 88) rfl rfl rfl rfl (j := 110) rfl ?_
            refine w_sipush (q := 91) rfl rfl rfl ?_
            refine w_iconst (q := 92) rfl rfl ?_
            refine w_iload_n (q := 93) rfl rfl rfl ?_
            refine w_imul (q := 94) rfl rfl ?_
            refine w_iadd (q := 95) rfl rfl ?_
            refine w_iconst (q := 96) rfl rfl ?_
            refine w_iadd (q := 97) rfl rfl ?_
            obtain ⟨h8, k⟩ := k
            refine w_iald (q := 98) (n := 2800) (v := I 110 (460 + 3 * l1 + 2)) rfl rfl rfl rfl rfl rfl h8 ?_
            exact w_iret rfl rfl k
          · replace k := k.2 c7
            rcases Decidable.em (l2 = 5) with c9 | c9
            · replace k := k.1 c9
              refine w_tsw (t := 99) rfl h1 (by rw [c9]; rfl) ?_
              refine w_aload_n (q := 100) rfl rfl rfl ?_
              refine w_gfi (q := 103) (k' := 34) (v := I 104 34) rfl rfl rfl rfl rfl rfl rfl ?_
              exact w_iret rfl rfl k
            · replace k := k.2 c9
              have hd : l2 < 0 ∨ 5 < l2 := by omega
              refine w_tsw (t := 104) rfl h1 (by rw [if_pos hd]; rfl) ?_
              refine w_iconst (q := 105) rfl rfl ?_
              exact w_iret rfl rfl k
theorem b227_83 {xs : Nat → Int32} {xl : Nat} {I J : w_I} {b : Bool} {Q : Option Value → w_I → w_I → Bool → Prop} {u1 u2 : Option Value} {s0 : Int} (k : Q (some (w_i s0)) I J b) : w_T xs xl 227 83 [some (.ref 104), u1, u2] [] [w_i s0] I J b Q := by
  exact w_iret rfl rfl k
theorem e228 {xs : Nat → Int32} {xl : Nat} {I J : w_I} {b : Bool} {Q : Option Value → w_I → w_I → Bool → Prop} {a1 a2 : Int} (t : w_T xs xl 228 0 [some (.ref 104), some (w_i a1), some (w_i a2)] [] [] I J b Q) : w_C xs xl 228 [.ref 104, w_i a1, w_i a2] I J b Q := w_en rfl t
theorem b228_0 {xs : Nat → Int32} {xl : Nat} {I J : w_I} {b : Bool} {Q : Option Value → w_I → w_I → Bool → Prop} {a1 a2 : Int} (k : w_C xs xl 211 [.ref 104, w_i a1] I J b (fun v Ic Jc bc => w_T xs xl 228 5 [some (.ref 104), some (w_i a1), some (w_i a2)] [] (w_pv v []) Ic Jc bc Q)) : w_T xs xl 228 0 [some (.ref 104), some (w_i a1), some (w_i a2)] [] [] I J b Q := by
  refine w_aload_n (q := 1) rfl rfl rfl ?_
  refine w_iload_n (q := 2) rfl rfl rfl ?_
  refine w_callv (q := 5) rfl rfl rfl rfl rfl rfl ?_
  exact k
theorem b228_5 {xs : Nat → Int32} {xl : Nat} {I J : w_I} {b : Bool} {Q : Option Value → w_I → w_I → Bool → Prop} {l1 l2 s0 : Int} (k : ((-2147483648 ≤ s0 ∧ s0 < 2147483648) ∧ ((s0 = 0 → Q (some (w_i 0)) I J b) ∧ (¬ s0 = 0 → ((-2147483648 ≤ l2 ∧ l2 < 2147483648) ∧ ((l2 = (-1) → ((0 ≤ l2 → ((0 ≤ 460 + 3 * l1 + 1 ∧ 460 + 3 * l1 + 1 < 2800) ∧ Q (some (w_i 1)) (w_U I 110 (460 + 3 * l1 + 1) l2) J b)) ∧ (¬ 0 ≤ l2 → ((0 ≤ 460 + 3 * l1 + 1 ∧ 460 + 3 * l1 + 1 < 2800) ∧ Q (some (w_i 1)) (w_U I 110 (460 + 3 * l1 + 1) (-2)) J b)))) ∧ (¬ l2 = (-1) → w_C xs xl 212 [.ref 104, w_i l2] I J b (fun v Ic Jc bc => w_T xs xl 228 18 [some (.ref 104), some (w_i l1), some (w_i l2)] [] (w_pv v []) Ic Jc bc Q)))))))) : w_T xs xl 228 5 [some (.ref 104), some (w_i l1), some (w_i l2)] [] [w_i s0] I J b Q := by
  obtain ⟨h1, k⟩ := k
  refine w_zeq (t := 29) (q := 8) rfl rfl rfl h1 (fun c2 => ?_) (fun c2 => ?_)
  · replace k := k.1 c2
    refine w_iconst (q := 30) rfl rfl ?_
    refine w_iret rfl rfl k
  · replace k := k.2 c2
    refine w_iload_n (q := 9) rfl rfl rfl ?_
    refine w_iconst (q := 10) rfl rfl ?_
    obtain ⟨h3, k⟩ := k
    refine w_ceq (t := 31) (q := 13) rfl rfl rfl h3 (by decide) (fun c4 => ?_) (fun c4 => ?_)
    · replace k := k.1 c4
      refine w_aload_n (q := 32) rfl rfl rfl ?_
      refine w_gfr (q := 35) rfl rfl rfl rfl (j := 110) rfl ?_
      refine w_sipush (q := 38) rfl rfl rfl ?_
      refine w_iconst (q := 39) rfl rfl ?_
      refine w_iload_n (q := 40) rfl rfl rfl ?_
      refine w_imul (q := 41) rfl rfl ?_
      refine w_iadd (q := 42) rfl rfl ?_
      refine w_iconst (q := 43) rfl rfl ?_
      refine w_iadd (q := 44) rfl rfl ?_
      refine w_iload_n (q := 45) rfl rfl rfl ?_
      refine w_zge (t := 53) (q := 48) rfl rfl rfl h3 (fun c5 => ?_) (fun c5 => ?_)
      · replace k := k.1 c5
        refine w_iload_n (q := 54) rfl rfl rfl ?_
        obtain ⟨h6, k⟩ := k
        refine w_iast (q := 55) (n := 2800) rfl rfl rfl rfl rfl h6 ?_
        refine w_iconst (q := 56) rfl rfl ?_
        refine w_iret rfl rfl k
      · replace k := k.2 c5
        refine w_bipush (q := 50) rfl rfl rfl ?_
        refine w_goto (t := 54) rfl rfl ?_
        obtain ⟨h7, k⟩ := k
        refine w_iast (q := 55) (n := 2800) rfl rfl rfl rfl rfl h7 ?_
        refine w_iconst (q := 56) rfl rfl ?_
        refine w_iret rfl rfl k
    · replace k := k.2 c4
      refine w_aload_n (q := 14) rfl rfl rfl ?_
      refine w_iload_n (q := 15) rfl rfl rfl ?_
      refine w_callv (q := 18) rfl rfl rfl rfl rfl rfl ?_
      exact k
theorem b228_18 {xs : Nat → Int32} {xl : Nat} {I J : w_I} {b : Bool} {Q : Option Value → w_I → w_I → Bool → Prop} {l1 l2 s0 : Int} (k : ((-2147483648 ≤ s0 ∧ s0 < 2147483648) ∧ ((s0 = 0 → Q (some (w_i 0)) I J b) ∧ (¬ s0 = 0 → w_C xs xl 214 [.ref 104, w_i l2] I J b (fun v Ic Jc bc => w_T xs xl 228 26 [some (.ref 104), some (w_i l1), some (w_i l2)] [] (w_pv v []) Ic Jc bc Q))))) : w_T xs xl 228 18 [some (.ref 104), some (w_i l1), some (w_i l2)] [] [w_i s0] I J b Q := by
  obtain ⟨h1, k⟩ := k
  refine w_zeq (t := 29) (q := 21) rfl rfl rfl h1 (fun c2 => ?_) (fun c2 => ?_)
  · replace k := k.1 c2
    refine w_iconst (q := 30) rfl rfl ?_
    refine w_iret rfl rfl k
  · replace k := k.2 c2
    refine w_aload_n (q := 22) rfl rfl rfl ?_
    refine w_iload_n (q := 23) rfl rfl rfl ?_
    refine w_callv (q := 26) rfl rfl rfl rfl rfl rfl ?_
    exact k
theorem b228_26 {xs : Nat → Int32} {xl : Nat} {I J : w_I} {b : Bool} {Q : Option Value → w_I → w_I → Bool → Prop} {l1 l2 s0 : Int} (k : ((-2147483648 ≤ s0 ∧ s0 < 2147483648) ∧ ((s0 < 0 → ((-2147483648 ≤ l2 ∧ l2 < 2147483648) ∧ ((0 ≤ l2 → ((0 ≤ 460 + 3 * l1 + 1 ∧ 460 + 3 * l1 + 1 < 2800) ∧ Q (some (w_i 1)) (w_U I 110 (460 + 3 * l1 + 1) l2) J b)) ∧ (¬ 0 ≤ l2 → ((0 ≤ 460 + 3 * l1 + 1 ∧ 460 + 3 * l1 + 1 < 2800) ∧ Q (some (w_i 1)) (w_U I 110 (460 + 3 * l1 + 1) (-2)) J b))))) ∧ (¬ s0 < 0 → Q (some (w_i 0)) I J b)))) : w_T xs xl 228 26 [some (.ref 104), some (w_i l1), some (w_i l2)] [] [w_i s0] I J b Q := by
  obtain ⟨h1, k⟩ := k
  refine w_zlt (t := 31) (q := 29) rfl rfl rfl h1 (fun c2 => ?_) (fun c2 => ?_)
  · replace k := k.1 c2
    refine w_aload_n (q := 32) rfl rfl rfl ?_
    refine w_gfr (q := 35) rfl rfl rfl rfl (j := 110) rfl ?_
    refine w_sipush (q := 38) rfl rfl rfl ?_
    refine w_iconst (q := 39) rfl rfl ?_
    refine w_iload_n (q := 40) rfl rfl rfl ?_
    refine w_imul (q := 41) rfl rfl ?_
    refine w_iadd (q := 42) rfl rfl ?_
    refine w_iconst (q := 43) rfl rfl ?_
    refine w_iadd (q := 44) rfl rfl ?_
    refine w_iload_n (q := 45) rfl rfl rfl ?_
    obtain ⟨h3, k⟩ := k
    refine w_zge (t := 53) (q := 48) rfl rfl rfl h3 (fun c4 => ?_) (fun c4 => ?_)
    · replace k := k.1 c4
      refine w_iload_n (q := 54) rfl rfl rfl ?_
      obtain ⟨h5, k⟩ := k
      refine w_iast (q := 55) (n := 2800) rfl rfl rfl rfl rfl h5 ?_
      refine w_iconst (q := 56) rfl rfl ?_
      refine w_iret rfl rfl k
    · replace k := k.2 c4
      refine w_bipush (q := 50) rfl rfl rfl ?_
      refine w_goto (t := 54) rfl rfl ?_
      obtain ⟨h6, k⟩ := k
      refine w_iast (q := 55) (n := 2800) rfl rfl rfl rfl rfl h6 ?_
      refine w_iconst (q := 56) rfl rfl ?_
      refine w_iret rfl rfl k
  · replace k := k.2 c2
    refine w_iconst (q := 30) rfl rfl ?_
    refine w_iret rfl rfl k
theorem e229 {xs : Nat → Int32} {xl : Nat} {I J : w_I} {b : Bool} {Q : Option Value → w_I → w_I → Bool → Prop} {a1 a2 : Int} (t : w_T xs xl 229 0 [some (.ref 104), some (w_i a1), some (w_i a2)] [] [] I J b Q) : w_C xs xl 229 [.ref 104, w_i a1, w_i a2] I J b Q := w_en rfl t
theorem b229_0 {xs : Nat → Int32} {xl : Nat} {I J : w_I} {b : Bool} {Q : Option Value → w_I → w_I → Bool → Prop} {a1 a2 : Int} (k : w_C xs xl 211 [.ref 104, w_i a1] I J b (fun v Ic Jc bc => w_T xs xl 229 5 [some (.ref 104), some (w_i a1), some (w_i a2)] [] (w_pv v []) Ic Jc bc Q)) : w_T xs xl 229 0 [some (.ref 104), some (w_i a1), some (w_i a2)] [] [] I J b Q := by
  refine w_aload_n (q := 1) rfl rfl rfl ?_
  refine w_iload_n (q := 2) rfl rfl rfl ?_
  refine w_callv (q := 5) rfl rfl rfl rfl rfl rfl ?_
  exact k
theorem b229_5 {xs : Nat → Int32} {xl : Nat} {I J : w_I} {b : Bool} {Q : Option Value → w_I → w_I → Bool → Prop} {l1 l2 s0 : Int} (k : ((-2147483648 ≤ s0 ∧ s0 < 2147483648) ∧ ((s0 = 0 → Q (some (w_i 0)) I J b) ∧ (¬ s0 = 0 → ((-2147483648 ≤ l2 ∧ l2 < 2147483648) ∧ ((l2 = (-1) → ((0 ≤ l2 → ((0 ≤ 460 + 3 * l1 + 2 ∧ 460 + 3 * l1 + 2 < 2800) ∧ Q (some (w_i 1)) (w_U I 110 (460 + 3 * l1 + 2) l2) J b)) ∧ (¬ 0 ≤ l2 → ((0 ≤ 460 + 3 * l1 + 2 ∧ 460 + 3 * l1 + 2 < 2800) ∧ Q (some (w_i 1)) (w_U I 110 (460 + 3 * l1 + 2) (-2)) J b)))) ∧ (¬ l2 = (-1) → w_C xs xl 212 [.ref 104, w_i l2] I J b (fun v Ic Jc bc => w_T xs xl 229 18 [some (.ref 104), some (w_i l1), some (w_i l2)] [] (w_pv v []) Ic Jc bc Q)))))))) : w_T xs xl 229 5 [some (.ref 104), some (w_i l1), some (w_i l2)] [] [w_i s0] I J b Q := by
  obtain ⟨h1, k⟩ := k
  refine w_zeq (t := 21) (q := 8) rfl rfl rfl h1 (fun c2 => ?_) (fun c2 => ?_)
  · replace k := k.1 c2
    refine w_iconst (q := 22) rfl rfl ?_
    refine w_iret rfl rfl k
  · replace k := k.2 c2
    refine w_iload_n (q := 9) rfl rfl rfl ?_
    refine w_iconst (q := 10) rfl rfl ?_
    obtain ⟨h3, k⟩ := k
    refine w_ceq (t := 23) (q := 13) rfl rfl rfl h3 (by decide) (fun c4 => ?_) (fun c4 => ?_)
    · replace k := k.1 c4
      refine w_aload_n (q := 24) rfl rfl rfl ?_
      refine w_gfr (q := 27) rfl rfl rfl rfl (j := 110) rfl ?_
      refine w_sipush (q := 30) rfl rfl rfl ?_
      refine w_iconst (q := 31) rfl rfl ?_
      refine w_iload_n (q := 32) rfl rfl rfl ?_
      refine w_imul (q := 33) rfl rfl ?_
      refine w_iadd (q := 34) rfl rfl ?_
      refine w_iconst (q := 35) rfl rfl ?_
      refine w_iadd (q := 36) rfl rfl ?_
      refine w_iload_n (q := 37) rfl rfl rfl ?_
      refine w_zge (t := 45) (q := 40) rfl rfl rfl h3 (fun c5 => ?_) (fun c5 => ?_)
      · replace k := k.1 c5
        refine w_iload_n (q := 46) rfl rfl rfl ?_
        obtain ⟨h6, k⟩ := k
        refine w_iast (q := 47) (n := 2800) rfl rfl rfl rfl rfl h6 ?_
        refine w_iconst (q := 48) rfl rfl ?_
        refine w_iret rfl rfl k
      · replace k := k.2 c5
        refine w_bipush (q := 42) rfl rfl rfl ?_
        refine w_goto (t := 46) rfl rfl ?_
        obtain ⟨h7, k⟩ := k
        refine w_iast (q := 47) (n := 2800) rfl rfl rfl rfl rfl h7 ?_
        refine w_iconst (q := 48) rfl rfl ?_
        refine w_iret rfl rfl k
    · replace k := k.2 c4
      refine w_aload_n (q := 14) rfl rfl rfl ?_
      refine w_iload_n (q := 15) rfl rfl rfl ?_
      refine w_callv (q := 18) rfl rfl rfl rfl rfl rfl ?_
      exact k
theorem b229_18 {xs : Nat → Int32} {xl : Nat} {I J : w_I} {b : Bool} {Q : Option Value → w_I → w_I → Bool → Prop} {l1 l2 s0 : Int} (k : ((-2147483648 ≤ s0 ∧ s0 < 2147483648) ∧ ((¬ s0 = 0 → ((-2147483648 ≤ l2 ∧ l2 < 2147483648) ∧ ((0 ≤ l2 → ((0 ≤ 460 + 3 * l1 + 2 ∧ 460 + 3 * l1 + 2 < 2800) ∧ Q (some (w_i 1)) (w_U I 110 (460 + 3 * l1 + 2) l2) J b)) ∧ (¬ 0 ≤ l2 → ((0 ≤ 460 + 3 * l1 + 2 ∧ 460 + 3 * l1 + 2 < 2800) ∧ Q (some (w_i 1)) (w_U I 110 (460 + 3 * l1 + 2) (-2)) J b))))) ∧ (s0 = 0 → Q (some (w_i 0)) I J b)))) : w_T xs xl 229 18 [some (.ref 104), some (w_i l1), some (w_i l2)] [] [w_i s0] I J b Q := by
  obtain ⟨h1, k⟩ := k
  refine w_zne (t := 23) (q := 21) rfl rfl rfl h1 (fun c2 => ?_) (fun c2 => ?_)
  · replace k := k.1 c2
    refine w_aload_n (q := 24) rfl rfl rfl ?_
    refine w_gfr (q := 27) rfl rfl rfl rfl (j := 110) rfl ?_
    refine w_sipush (q := 30) rfl rfl rfl ?_
    refine w_iconst (q := 31) rfl rfl ?_
    refine w_iload_n (q := 32) rfl rfl rfl ?_
    refine w_imul (q := 33) rfl rfl ?_
    refine w_iadd (q := 34) rfl rfl ?_
    refine w_iconst (q := 35) rfl rfl ?_
    refine w_iadd (q := 36) rfl rfl ?_
    refine w_iload_n (q := 37) rfl rfl rfl ?_
    obtain ⟨h3, k⟩ := k
    refine w_zge (t := 45) (q := 40) rfl rfl rfl h3 (fun c4 => ?_) (fun c4 => ?_)
    · replace k := k.1 c4
      refine w_iload_n (q := 46) rfl rfl rfl ?_
      obtain ⟨h5, k⟩ := k
      refine w_iast (q := 47) (n := 2800) rfl rfl rfl rfl rfl h5 ?_
      refine w_iconst (q := 48) rfl rfl ?_
      refine w_iret rfl rfl k
    · replace k := k.2 c4
      refine w_bipush (q := 42) rfl rfl rfl ?_
      refine w_goto (t := 46) rfl rfl ?_
      obtain ⟨h6, k⟩ := k
      refine w_iast (q := 47) (n := 2800) rfl rfl rfl rfl rfl h6 ?_
      refine w_iconst (q := 48) rfl rfl ?_
      refine w_iret rfl rfl k
  · replace k := k.2 c2
    refine w_iconst (q := 22) rfl rfl ?_
    refine w_iret rfl rfl k
theorem e230 {xs : Nat → Int32} {xl : Nat} {I J : w_I} {b : Bool} {Q : Option Value → w_I → w_I → Bool → Prop} {a1 : Int} (t : w_T xs xl 230 0 [some (.ref 104), some (w_i a1)] [] [] I J b Q) : w_C xs xl 230 [.ref 104, w_i a1] I J b Q := w_en rfl t
theorem b230_0 {xs : Nat → Int32} {xl : Nat} {I J : w_I} {b : Bool} {Q : Option Value → w_I → w_I → Bool → Prop} {a1 : Int} (k : w_C xs xl 209 [w_i a1, w_i 0, w_i 240] I J b (fun v Ic Jc bc => w_T xs xl 230 8 [some (.ref 104), some (w_i a1)] [] (w_pv v []) Ic Jc bc Q)) : w_T xs xl 230 0 [some (.ref 104), some (w_i a1)] [] [] I J b Q := by
  refine w_iload_n (q := 1) rfl rfl rfl ?_
  refine w_iconst (q := 2) rfl rfl ?_
  refine w_sipush (q := 5) rfl rfl rfl ?_
  refine w_call (q := 8) rfl rfl rfl rfl rfl ?_
  exact k
theorem b230_8 {xs : Nat → Int32} {xl : Nat} {I J : w_I} {b : Bool} {Q : Option Value → w_I → w_I → Bool → Prop} {l1 s0 : Int} (k : ((-2147483648 ≤ s0 ∧ s0 < 2147483648) ∧ ((s0 = 0 → Q (some (w_i (-1))) I J b) ∧ (¬ s0 = 0 → ((-2147483648 ≤ I 110 9 + l1 ∧ I 110 9 + l1 < 2147483648) ∧ ((I 110 9 + l1 ≤ 1200 → Q (some (w_i (I 110 9 + l1))) (w_U I 110 9 (I 110 9 + l1)) J b) ∧ (¬ I 110 9 + l1 ≤ 1200 → Q (some (w_i (-1))) I J b))))))) : w_T xs xl 230 8 [some (.ref 104), some (w_i l1)] [] [w_i s0] I J b Q := by
  obtain ⟨h1, k⟩ := k
  refine w_zeq (t := 26) (q := 11) rfl rfl rfl h1 (fun c2 => ?_) (fun c2 => ?_)
  · replace k := k.1 c2
    refine w_iconst (q := 27) rfl rfl ?_
    exact w_iret rfl rfl k
  · replace k := k.2 c2
    refine w_aload_n (q := 12) rfl rfl rfl ?_
    refine w_gfr (q := 15) rfl rfl rfl rfl (j := 110) rfl ?_
    refine w_bipush (q := 17) rfl rfl rfl ?_
    refine w_iald (q := 18) (n := 2800) (v := I 110 9) rfl rfl rfl rfl rfl rfl (by decide) ?_
    refine w_iload_n (q := 19) rfl rfl rfl ?_
    refine w_iadd (q := 20) rfl rfl ?_
    refine w_sipush (q := 23) rfl rfl rfl ?_
    obtain ⟨h3, k⟩ := k
    refine w_cle (t := 28) (q := 26) rfl rfl rfl h3 (by decide) (fun c4 => ?_) (fun c4 => ?_)
    · replace k := k.1 c4
      refine w_aload_n (q := 29) rfl rfl rfl ?_
      refine w_gfr (q := 32) rfl rfl rfl rfl (j := 110) rfl ?_
      refine w_bipush (q := 34) rfl rfl rfl ?_
      refine w_dup2 (q := 35) rfl rfl rfl rfl ?_
      refine w_iald (q := 36) (n := 2800) (v := I 110 9) rfl rfl rfl rfl rfl rfl (by decide) ?_
      refine w_iload_n (q := 37) rfl rfl rfl ?_
      refine w_iadd (q := 38) rfl rfl ?_
      refine w_iast (q := 39) (n := 2800) rfl rfl rfl rfl rfl (by decide) ?_
      refine w_aload_n (q := 40) rfl rfl rfl ?_
      refine w_gfr (q := 43) rfl rfl rfl rfl (j := 110) rfl ?_
      refine w_bipush (q := 45) rfl rfl rfl ?_
      refine w_iald (q := 46) (n := 2800) (v := I 110 9 + l1) rfl rfl rfl rfl rfl rfl (by decide) ?_
      exact w_iret rfl rfl k
    · replace k := k.2 c4
      refine w_iconst (q := 27) rfl rfl ?_
      exact w_iret rfl rfl k
theorem e231 {xs : Nat → Int32} {xl : Nat} {I J : w_I} {b : Bool} {Q : Option Value → w_I → w_I → Bool → Prop} {a1 a2 : Int} (t : w_T xs xl 231 0 [some (.ref 104), some (w_i a1), some (w_i a2)] [] [] I J b Q) : w_C xs xl 231 [.ref 104, w_i a1, w_i a2] I J b Q := w_en rfl t
theorem b231_0 {xs : Nat → Int32} {xl : Nat} {I J : w_I} {b : Bool} {Q : Option Value → w_I → w_I → Bool → Prop} {a1 a2 : Int} (k : ((0 ≤ 20 + a1 ∧ 20 + a1 < 2800) ∧ ((-2147483648 ≤ I 110 (20 + a1) ∧ I 110 (20 + a1) < 2147483648) ∧ ((I 110 (20 + a1) = 0 → Q (some (w_i 1)) I J b) ∧ (¬ I 110 (20 + a1) = 0 → ((0 ≤ 20 + a2 ∧ 20 + a2 < 2800) ∧ ((-2147483648 ≤ I 110 (20 + a2) ∧ I 110 (20 + a2) < 2147483648) ∧ ((I 110 (20 + a2) = 0 → Q (some (w_i 1)) I J b) ∧ (¬ I 110 (20 + a2) = 0 → ((¬ I 110 (20 + a1) = I 110 (20 + a2) → Q (some (w_i 0)) I J b) ∧ (I 110 (20 + a1) = I 110 (20 + a2) → Q (some (w_i 1)) I J b))))))))))) : w_T xs xl 231 0 [some (.ref 104), some (w_i a1), some (w_i a2)] [] [] I J b Q := by
  refine w_aload_n (q := 1) rfl rfl rfl ?_
  refine w_gfr (q := 4) rfl rfl rfl rfl (j := 110) rfl ?_
  refine w_bipush (q := 6) rfl rfl rfl ?_
  refine w_iload_n (q := 7) rfl rfl rfl ?_
  refine w_iadd (q := 8) rfl rfl ?_
  obtain ⟨h1, k⟩ := k
  refine w_iald (q := 9) (n := 2800) (v := I 110 (20 + a1)) rfl rfl rfl rfl rfl rfl h1 ?_
  obtain ⟨h2, k⟩ := k
  refine w_zeq (t := 45) (q := 12) rfl rfl rfl h2 (fun c3 => ?_) (fun c3 => ?_)
  · replace k := k.1 c3
    refine w_iconst (q := 46) rfl rfl ?_
    refine w_goto (t := 50) rfl rfl ?_
    refine w_iret rfl rfl k
  · replace k := k.2 c3
    refine w_aload_n (q := 13) rfl rfl rfl ?_
    refine w_gfr (q := 16) rfl rfl rfl rfl (j := 110) rfl ?_
    refine w_bipush (q := 18) rfl rfl rfl ?_
    refine w_iload_n (q := 19) rfl rfl rfl ?_
    refine w_iadd (q := 20) rfl rfl ?_
    obtain ⟨h4, k⟩ := k
    refine w_iald (q := 21) (n := 2800) (v := I 110 (20 + a2)) rfl rfl rfl rfl rfl rfl h4 ?_
    obtain ⟨h5, k⟩ := k
    refine w_zeq (t := 45) (q := 24) rfl rfl rfl h5 (fun c6 => ?_) (fun c6 => ?_)
    · replace k := k.1 c6
      refine w_iconst (q := 46) rfl rfl ?_
      refine w_goto (t := 50) rfl rfl ?_
      refine w_iret rfl rfl k
    · replace k := k.2 c6
      refine w_aload_n (q := 25) rfl rfl rfl ?_
      refine w_gfr (q := 28) rfl rfl rfl rfl (j := 110) rfl ?_
      refine w_bipush (q := 30) rfl rfl rfl ?_
      refine w_iload_n (q := 31) rfl rfl rfl ?_
      refine w_iadd (q := 32) rfl rfl ?_
      refine w_iald (q := 33) (n := 2800) (v := I 110 (20 + a1)) rfl rfl rfl rfl rfl rfl h1 ?_
      refine w_aload_n (q := 34) rfl rfl rfl ?_
      refine w_gfr (q := 37) rfl rfl rfl rfl (j := 110) rfl ?_
      refine w_bipush (q := 39) rfl rfl rfl ?_
      refine w_iload_n (q := 40) rfl rfl rfl ?_
      refine w_iadd (q := 41) rfl rfl ?_
      refine w_iald (q := 42) (n := 2800) (v := I 110 (20 + a2)) rfl rfl rfl rfl rfl rfl h4 ?_
      refine w_cne (t := 49) (q := 45) rfl rfl rfl h2 h5 (fun c7 => ?_) (fun c7 => ?_)
      · replace k := k.1 c7
        refine w_iconst (q := 50) rfl rfl ?_
        refine w_iret rfl rfl k
      · replace k := k.2 c7
        refine w_iconst (q := 46) rfl rfl ?_
        refine w_goto (t := 50) rfl rfl ?_
        refine w_iret rfl rfl k
theorem e232 {xs : Nat → Int32} {xl : Nat} {I J : w_I} {b : Bool} {Q : Option Value → w_I → w_I → Bool → Prop} {a1 a2 a3 : Int} (t : w_T xs xl 232 0 [some (.ref 104), some (w_i a1), some (w_i a2), some (w_i a3), none, none, none, none, none, none] [] [] I J b Q) : w_C xs xl 232 [.ref 104, w_i a1, w_i a2, w_i a3] I J b Q := w_en rfl t
theorem b232_0 {xs : Nat → Int32} {xl : Nat} {I J : w_I} {b : Bool} {Q : Option Value → w_I → w_I → Bool → Prop} {a1 a2 a3 : Int} (k : w_C xs xl 214 [.ref 104, w_i a1] I J b (fun v Ic Jc bc => w_T xs xl 232 5 [some (.ref 104), some (w_i a1), some (w_i a2), some (w_i a3), none, none, none, none, none, none] [] (w_pv v []) Ic Jc bc Q)) : w_T xs xl 232 0 [some (.ref 104), some (w_i a1), some (w_i a2), some (w_i a3), none, none, none, none, none, none] [] [] I J b Q := by
  refine w_aload_n (q := 1) rfl rfl rfl ?_
  refine w_iload_n (q := 2) rfl rfl rfl ?_
  refine w_callv (q := 5) rfl rfl rfl rfl rfl rfl ?_
  exact k
theorem b232_5 {xs : Nat → Int32} {xl : Nat} {I J : w_I} {b : Bool} {Q : Option Value → w_I → w_I → Bool → Prop} {l1 l2 l3 s0 : Int} {u4 u5 u6 u7 u8 u9 : Option Value} (k : w_C xs xl 214 [.ref 104, w_i l2] I J b (fun v Ic Jc bc => w_T xs xl 232 12 [some (.ref 104), some (w_i l1), some (w_i l2), some (w_i l3), some (w_i s0), u5, u6, u7, u8, u9] [] (w_pv v []) Ic Jc bc Q)) : w_T xs xl 232 5 [some (.ref 104), some (w_i l1), some (w_i l2), some (w_i l3), u4, u5, u6, u7, u8, u9] [] [w_i s0] I J b Q := by
  refine w_istore (q := 7) (L' := [some (.ref 104), some (w_i l1), some (w_i l2), some (w_i l3), some (w_i s0), u5, u6, u7, u8, u9]) (M' := []) rfl rfl rfl rfl rfl ?_
  refine w_aload_n (q := 8) rfl rfl rfl ?_
  refine w_iload_n (q := 9) rfl rfl rfl ?_
  refine w_callv (q := 12) rfl rfl rfl rfl rfl rfl ?_
  exact k
theorem b232_12 {xs : Nat → Int32} {xl : Nat} {I J : w_I} {b : Bool} {Q : Option Value → w_I → w_I → Bool → Prop} {l1 l2 l3 l4 s0 : Int} {u5 u6 u7 u8 u9 : Option Value} (k : ((-2147483648 ≤ l4 ∧ l4 < 2147483648) ∧ ((l4 < 0 → Q (some (w_i 0)) I J b) ∧ (¬ l4 < 0 → ((-2147483648 ≤ s0 ∧ s0 < 2147483648) ∧ ((s0 < 0 → Q (some (w_i 0)) I J b) ∧ (¬ s0 < 0 → w_C xs xl 231 [.ref 104, w_i l1, w_i l2] I J b (fun v Ic Jc bc => w_T xs xl 232 30 [some (.ref 104), some (w_i l1), some (w_i l2), some (w_i l3), some (w_i l4), some (w_i s0), u6, u7, u8, u9] [] (w_pv v []) Ic Jc bc Q)))))))) : w_T xs xl 232 12 [some (.ref 104), some (w_i l1), some (w_i l2), some (w_i l3), some (w_i l4), u5, u6, u7, u8, u9] [] [w_i s0] I J b Q := by
  refine w_istore (q := 14) (L' := [some (.ref 104), some (w_i l1), some (w_i l2), some (w_i l3), some (w_i l4), some (w_i s0), u6, u7, u8, u9]) (M' := []) rfl rfl rfl rfl rfl ?_
  refine w_iload (q := 16) rfl rfl rfl ?_
  obtain ⟨h1, k⟩ := k
  refine w_zlt (t := 33) (q := 19) rfl rfl rfl h1 (fun c2 => ?_) (fun c2 => ?_)
  · replace k := k.1 c2
    refine w_iconst (q := 34) rfl rfl ?_
    refine w_iret rfl rfl k
  · replace k := k.2 c2
    refine w_iload (q := 21) rfl rfl rfl ?_
    obtain ⟨h3, k⟩ := k
    refine w_zlt (t := 33) (q := 24) rfl rfl rfl h3 (fun c4 => ?_) (fun c4 => ?_)
    · replace k := k.1 c4
      refine w_iconst (q := 34) rfl rfl ?_
      refine w_iret rfl rfl k
    · replace k := k.2 c4
      refine w_aload_n (q := 25) rfl rfl rfl ?_
      refine w_iload_n (q := 26) rfl rfl rfl ?_
      refine w_iload_n (q := 27) rfl rfl rfl ?_
      refine w_callv (q := 30) rfl rfl rfl rfl rfl rfl ?_
      exact k
theorem b232_30 {xs : Nat → Int32} {xl : Nat} {I J : w_I} {b : Bool} {Q : Option Value → w_I → w_I → Bool → Prop} {u1 u2 u6 u7 u8 u9 : Option Value} {l3 l4 l5 s0 : Int} (k : ((-2147483648 ≤ s0 ∧ s0 < 2147483648) ∧ ((¬ s0 = 0 → ((-2147483648 ≤ l3 ∧ l3 < 2147483648) ∧ ((¬ l3 = 2 → ((¬ l3 = 1 → w_C xs xl 216 [.ref 104, w_i l5, w_i (-1), w_i 0, w_i (I 110 3)] I J b (fun v Ic Jc bc => w_T xs xl 232 78 [some (.ref 104), u1, u2, some (w_i l3), some (w_i l4), some (w_i l5), some (w_i (I 110 3)), u7, u8, u9] [] (w_pv v []) Ic Jc bc Q)) ∧ (l3 = 1 → w_C xs xl 216 [.ref 104, w_i l5, w_i (-1), w_i 1, w_i (I 110 3)] I J b (fun v Ic Jc bc => w_T xs xl 232 78 [some (.ref 104), u1, u2, some (w_i l3), some (w_i l4), some (w_i l5), some (w_i (I 110 3)), u7, u8, u9] [] (w_pv v []) Ic Jc bc Q)))) ∧ (l3 = 2 → ((¬ l3 = 1 → w_C xs xl 216 [.ref 104, w_i l5, w_i (-1), w_i 0, w_i (1 - I 110 3)] I J b (fun v Ic Jc bc => w_T xs xl 232 78 [some (.ref 104), u1, u2, some (w_i l3), some (w_i l4), some (w_i l5), some (w_i (1 - I 110 3)), u7, u8, u9] [] (w_pv v []) Ic Jc bc Q)) ∧ (l3 = 1 → w_C xs xl 216 [.ref 104, w_i l5, w_i (-1), w_i 1, w_i (1 - I 110 3)] I J b (fun v Ic Jc bc => w_T xs xl 232 78 [some (.ref 104), u1, u2, some (w_i l3), some (w_i l4), some (w_i l5), some (w_i (1 - I 110 3)), u7, u8, u9] [] (w_pv v []) Ic Jc bc Q))))))) ∧ (s0 = 0 → Q (some (w_i 0)) I J b)))) : w_T xs xl 232 30 [some (.ref 104), u1, u2, some (w_i l3), some (w_i l4), some (w_i l5), u6, u7, u8, u9] [] [w_i s0] I J b Q := by
  obtain ⟨h1, k⟩ := k
  refine w_zne (t := 35) (q := 33) rfl rfl rfl h1 (fun c2 => ?_) (fun c2 => ?_)
  · replace k := k.1 c2
    refine w_iload_n (q := 36) rfl rfl rfl ?_
    refine w_iconst (q := 37) rfl rfl ?_
    obtain ⟨h3, k⟩ := k
    refine w_cne (t := 51) (q := 40) rfl rfl rfl h3 (by decide) (fun c4 => ?_) (fun c4 => ?_)
    · replace k := k.1 c4
      refine w_aload_n (q := 52) rfl rfl rfl ?_
      refine w_gfr (q := 55) rfl rfl rfl rfl (j := 110) rfl ?_
      refine w_iconst (q := 56) rfl rfl ?_
      refine w_iald (q := 57) (n := 2800) (v := I 110 3) rfl rfl rfl rfl rfl rfl (by decide) ?_
      refine w_istore (q := 59) (L' := [some (.ref 104), u1, u2, some (w_i l3), some (w_i l4), some (w_i l5), some (w_i (I 110 3)), u7, u8, u9]) (M' := []) rfl rfl rfl rfl rfl ?_
      refine w_aload_n (q := 60) rfl rfl rfl ?_
      refine w_iload (q := 62) rfl rfl rfl ?_
      refine w_iconst (q := 63) rfl rfl ?_
      refine w_iload_n (q := 64) rfl rfl rfl ?_
      refine w_iconst (q := 65) rfl rfl ?_
      refine w_cne (t := 72) (q := 68) rfl rfl rfl h3 (by decide) (fun c5 => ?_) (fun c5 => ?_)
      · replace k := k.1 c5
        refine w_iconst (q := 73) rfl rfl ?_
        refine w_iload (q := 75) rfl rfl rfl ?_
        refine w_callv (q := 78) rfl rfl rfl rfl rfl rfl ?_
        exact k
      · replace k := k.2 c5
        refine w_iconst (q := 69) rfl rfl ?_
        refine w_goto (t := 73) rfl rfl ?_
        refine w_iload (q := 75) rfl rfl rfl ?_
        refine w_callv (q := 78) rfl rfl rfl rfl rfl rfl ?_
        exact k
    · replace k := k.2 c4
      refine w_iconst (q := 41) rfl rfl ?_
      refine w_aload_n (q := 42) rfl rfl rfl ?_
      refine w_gfr (q := 45) rfl rfl rfl rfl (j := 110) rfl ?_
      refine w_iconst (q := 46) rfl rfl ?_
      refine w_iald (q := 47) (n := 2800) (v := I 110 3) rfl rfl rfl rfl rfl rfl (by decide) ?_
      refine w_isub (q := 48) rfl rfl ?_
      refine w_goto (t := 57) rfl rfl ?_
      refine w_istore (q := 59) (L' := [some (.ref 104), u1, u2, some (w_i l3), some (w_i l4), some (w_i l5), some (w_i (1 - I 110 3)), u7, u8, u9]) (M' := []) rfl rfl rfl rfl rfl ?_
      refine w_aload_n (q := 60) rfl rfl rfl ?_
      refine w_iload (q := 62) rfl rfl rfl ?_
      refine w_iconst (q := 63) rfl rfl ?_
      refine w_iload_n (q := 64) rfl rfl rfl ?_
      refine w_iconst (q := 65) rfl rfl ?_
      refine w_cne (t := 72) (q := 68) rfl rfl rfl h3 (by decide) (fun c6 => ?_) (fun c6 => ?_)
      · replace k := k.1 c6
        refine w_iconst (q := 73) rfl rfl ?_
        refine w_iload (q := 75) rfl rfl rfl ?_
        refine w_callv (q := 78) rfl rfl rfl rfl rfl rfl ?_
        exact k
      · replace k := k.2 c6
        refine w_iconst (q := 69) rfl rfl ?_
        refine w_goto (t := 73) rfl rfl ?_
        refine w_iload (q := 75) rfl rfl rfl ?_
        refine w_callv (q := 78) rfl rfl rfl rfl rfl rfl ?_
        exact k
  · replace k := k.2 c2
    refine w_iconst (q := 34) rfl rfl ?_
    refine w_iret rfl rfl k
theorem b232_78 {xs : Nat → Int32} {xl : Nat} {I J : w_I} {b : Bool} {Q : Option Value → w_I → w_I → Bool → Prop} {u1 u2 u5 u7 u8 u9 : Option Value} {l3 l4 l6 : Int} (k : (((0 : Int) ≤ I 104 35 ∧ I 104 35 < 2147483648 ∧ (0 : Int) < I 110 1 ∧ I 110 1 < (2147483648 : Int)) ∧ ((-2147483648 ≤ l3 ∧ l3 < 2147483648) ∧ ((¬ l3 = 1 → w_C xs xl 216 [.ref 104, w_i l4, w_i (-1), w_i 0, w_i l6] I J b (fun v Ic Jc bc => w_T xs xl 232 110 [some (.ref 104), u1, u2, some (w_i l3), some (w_i l4), u5, some (w_i l6), some (w_i (I 104 35 / I 110 1)), u8, u9] [] (w_pv v []) Ic Jc bc Q)) ∧ (l3 = 1 → w_C xs xl 216 [.ref 104, w_i l4, w_i (-1), w_i 1, w_i l6] I J b (fun v Ic Jc bc => w_T xs xl 232 110 [some (.ref 104), u1, u2, some (w_i l3), some (w_i l4), u5, some (w_i l6), some (w_i (I 104 35 / I 110 1)), u8, u9] [] (w_pv v []) Ic Jc bc Q)))))) : w_T xs xl 232 78 [some (.ref 104), u1, u2, some (w_i l3), some (w_i l4), u5, some (w_i l6), u7, u8, u9] [] [] I J b Q := by
  refine w_aload_n (q := 79) rfl rfl rfl ?_
  refine w_gfi (q := 82) (k' := 35) (v := I 104 35) rfl rfl rfl rfl rfl rfl rfl ?_
  refine w_aload_n (q := 83) rfl rfl rfl ?_
  refine w_gfr (q := 86) rfl rfl rfl rfl (j := 110) rfl ?_
  refine w_iconst (q := 87) rfl rfl ?_
  refine w_iald (q := 88) (n := 2800) (v := I 110 1) rfl rfl rfl rfl rfl rfl (by decide) ?_
  obtain ⟨h1, k⟩ := k
  refine w_idiv (q := 89) rfl rfl h1 ?_
  refine w_istore (q := 91) (L' := [some (.ref 104), u1, u2, some (w_i l3), some (w_i l4), u5, some (w_i l6), some (w_i (I 104 35 / I 110 1)), u8, u9]) (M' := []) rfl rfl rfl rfl rfl ?_
  refine w_aload_n (q := 92) rfl rfl rfl ?_
  refine w_iload (q := 94) rfl rfl rfl ?_
  refine w_iconst (q := 95) rfl rfl ?_
  refine w_iload_n (q := 96) rfl rfl rfl ?_
  refine w_iconst (q := 97) rfl rfl ?_
  obtain ⟨h2, k⟩ := k
  refine w_cne (t := 104) (q := 100) rfl rfl rfl h2 (by decide) (fun c3 => ?_) (fun c3 => ?_)
  · replace k := k.1 c3
    refine w_iconst (q := 105) rfl rfl ?_
    refine w_iload (q := 107) rfl rfl rfl ?_
    refine w_callv (q := 110) rfl rfl rfl rfl rfl rfl ?_
    exact k
  · replace k := k.2 c3
    refine w_iconst (q := 101) rfl rfl ?_
    refine w_goto (t := 105) rfl rfl ?_
    refine w_iload (q := 107) rfl rfl rfl ?_
    refine w_callv (q := 110) rfl rfl rfl rfl rfl rfl ?_
    exact k
theorem b232_110 {xs : Nat → Int32} {xl : Nat} {I J : w_I} {b : Bool} {Q : Option Value → w_I → w_I → Bool → Prop} {u1 u2 u3 u4 u5 u6 u8 u9 : Option Value} {l7 : Int} (k : (((0 : Int) ≤ I 104 35 ∧ I 104 35 < 2147483648 ∧ (0 : Int) < I 110 1 ∧ I 110 1 < (2147483648 : Int)) ∧ ((-2147483648 ≤ I 104 35 / I 110 1 ∧ I 104 35 / I 110 1 < 2147483648) ∧ (-2147483648 ≤ l7 ∧ l7 < 2147483648) ∧ ((l7 < I 104 35 / I 110 1 → w_C xs xl 204 [.ref 104] I J b (fun v Ic Jc bc => w_T xs xl 232 136 [some (.ref 104), u1, u2, u3, u4, u5, u6, some (w_i l7), some (w_i (I 104 35 / I 110 1)), u9] [] (w_pv v []) Ic Jc bc Q)) ∧ (¬ l7 < I 104 35 / I 110 1 → Q (some (w_i 0)) I J b))))) : w_T xs xl 232 110 [some (.ref 104), u1, u2, u3, u4, u5, u6, some (w_i l7), u8, u9] [] [] I J b Q := by
  refine w_aload_n (q := 111) rfl rfl rfl ?_
  refine w_gfi (q := 114) (k' := 35) (v := I 104 35) rfl rfl rfl rfl rfl rfl rfl ?_
  refine w_aload_n (q := 115) rfl rfl rfl ?_
  refine w_gfr (q := 118) rfl rfl rfl rfl (j := 110) rfl ?_
  refine w_iconst (q := 119) rfl rfl ?_
  refine w_iald (q := 120) (n := 2800) (v := I 110 1) rfl rfl rfl rfl rfl rfl (by decide) ?_
  obtain ⟨h1, k⟩ := k
  refine w_idiv (q := 121) rfl rfl h1 ?_
  refine w_istore (q := 123) (L' := [some (.ref 104), u1, u2, u3, u4, u5, u6, some (w_i l7), some (w_i (I 104 35 / I 110 1)), u9]) (M' := []) rfl rfl rfl rfl rfl ?_
  refine w_iload (q := 125) rfl rfl rfl ?_
  refine w_iload (q := 127) rfl rfl rfl ?_
  obtain ⟨h2, h3, k⟩ := k
  refine w_cgt (t := 132) (q := 130) rfl rfl rfl h2 h3 (fun c4 => ?_) (fun c4 => ?_)
  · replace k := k.1 c4
    refine w_aload_n (q := 133) rfl rfl rfl ?_
    refine w_callv (q := 136) rfl rfl rfl rfl rfl rfl ?_
    exact k
  · replace k := k.2 c4
    refine w_iconst (q := 131) rfl rfl ?_
    refine w_iret rfl rfl k
theorem b232_136 {xs : Nat → Int32} {xl : Nat} {I J : w_I} {b : Bool} {Q : Option Value → w_I → w_I → Bool → Prop} {u1 u2 u3 u4 u5 u6 u9 : Option Value} {l7 l8 : Int} (k : (((0 : Int) ≤ I 110 9 ∧ I 110 9 < 2147483648 ∧ (0 : Int) < 12 ∧ 12 < (2147483648 : Int)) ∧ w_T xs xl 232 197 [some (.ref 104), u1, u2, u3, u4, u5, u6, some (w_i l7), some (w_i l8), some (w_i 0)] [] [] (w_U (w_U (w_U (w_U (w_U I 124 0 (I 104 35)) 124 1 (I 104 33)) 124 2 (I 104 34)) 124 3 (I 110 9 % 12)) 124 7 (l8 - l7)) J b Q)) : w_T xs xl 232 136 [some (.ref 104), u1, u2, u3, u4, u5, u6, some (w_i l7), some (w_i l8), u9] [] [] I J b Q := by
  refine w_aload_n (q := 137) rfl rfl rfl ?_
  refine w_gfr (q := 140) rfl rfl rfl rfl (j := 124) rfl ?_
  refine w_iconst (q := 141) rfl rfl ?_
  refine w_aload_n (q := 142) rfl rfl rfl ?_
  refine w_gfi (q := 145) (k' := 35) (v := I 104 35) rfl rfl rfl rfl rfl rfl rfl ?_
  refine w_iast (q := 146) (n := 10) rfl rfl rfl rfl rfl (by decide) ?_
  refine w_aload_n (q := 147) rfl rfl rfl ?_
  refine w_gfr (q := 150) rfl rfl rfl rfl (j := 124) rfl ?_
  refine w_iconst (q := 151) rfl rfl ?_
  refine w_aload_n (q := 152) rfl rfl rfl ?_
  refine w_gfi (q := 155) (k' := 33) (v := I 104 33) rfl rfl rfl rfl rfl rfl rfl ?_
  refine w_iast (q := 156) (n := 10) rfl rfl rfl rfl rfl (by decide) ?_
  refine w_aload_n (q := 157) rfl rfl rfl ?_
  refine w_gfr (q := 160) rfl rfl rfl rfl (j := 124) rfl ?_
  refine w_iconst (q := 161) rfl rfl ?_
  refine w_aload_n (q := 162) rfl rfl rfl ?_
  refine w_gfi (q := 165) (k' := 34) (v := I 104 34) rfl rfl rfl rfl rfl rfl rfl ?_
  refine w_iast (q := 166) (n := 10) rfl rfl rfl rfl rfl (by decide) ?_
  refine w_aload_n (q := 167) rfl rfl rfl ?_
  refine w_gfr (q := 170) rfl rfl rfl rfl (j := 124) rfl ?_
  refine w_iconst (q := 171) rfl rfl ?_
  refine w_aload_n (q := 172) rfl rfl rfl ?_
  refine w_gfr (q := 175) rfl rfl rfl rfl (j := 110) rfl ?_
  refine w_bipush (q := 177) rfl rfl rfl ?_
  refine w_iald (q := 178) (n := 2800) (v := I 110 9) rfl rfl rfl rfl rfl rfl (by decide) ?_
  refine w_bipush (q := 180) rfl rfl rfl ?_
  obtain ⟨h1, k⟩ := k
  refine w_irem (q := 181) rfl rfl h1 ?_
  refine w_iast (q := 182) (n := 10) rfl rfl rfl rfl rfl (by decide) ?_
  refine w_aload_n (q := 183) rfl rfl rfl ?_
  refine w_gfr (q := 186) rfl rfl rfl rfl (j := 124) rfl ?_
  refine w_bipush (q := 188) rfl rfl rfl ?_
  refine w_iload (q := 190) rfl rfl rfl ?_
  refine w_iload (q := 192) rfl rfl rfl ?_
  refine w_isub (q := 193) rfl rfl ?_
  refine w_iast (q := 194) (n := 10) rfl rfl rfl rfl rfl (by decide) ?_
  refine w_iconst (q := 195) rfl rfl ?_
  refine w_istore (q := 197) (L' := [some (.ref 104), u1, u2, u3, u4, u5, u6, some (w_i l7), some (w_i l8), some (w_i 0)]) (M' := []) rfl rfl rfl rfl rfl ?_
  exact k
theorem b232_197 {xs : Nat → Int32} {xl : Nat} {I J : w_I} {b : Bool} {Q : Option Value → w_I → w_I → Bool → Prop} {u1 u2 u3 u4 u5 u6 u7 u8 : Option Value} {l9 : Int} (k : ((-2147483648 ≤ l9 ∧ l9 < 2147483648) ∧ (-2147483648 ≤ I 110 4 ∧ I 110 4 < 2147483648) ∧ ((I 110 4 ≤ l9 → Q (some (w_i 1)) I J b) ∧ (¬ I 110 4 ≤ l9 → ((0 ≤ 80 + 2 * l9 ∧ 80 + 2 * l9 < 2800) ∧ ((0 ≤ 80 + 2 * l9 + 1 ∧ 80 + 2 * l9 + 1 < 2800) ∧ w_C xs xl 207 [.ref 104, w_i (I 110 (80 + 2 * l9)), w_i (I 110 (80 + 2 * l9 + 1))] I J b (fun v Ic Jc bc => w_T xs xl 232 238 [some (.ref 104), u1, u2, u3, u4, u5, u6, u7, u8, some (w_i l9)] [] (w_pv v []) Ic Jc bc Q))))))) : w_T xs xl 232 197 [some (.ref 104), u1, u2, u3, u4, u5, u6, u7, u8, some (w_i l9)] [] [] I J b Q := by
  refine w_iload (q := 199) rfl rfl rfl ?_
  refine w_aload_n (q := 200) rfl rfl rfl ?_
  refine w_gfr (q := 203) rfl rfl rfl rfl (j := 110) rfl ?_
  refine w_iconst (q := 204) rfl rfl ?_
  refine w_iald (q := 205) (n := 2800) (v := I 110 4) rfl rfl rfl rfl rfl rfl (by decide) ?_
  obtain ⟨h1, h2, k⟩ := k
  refine w_cge (t := 249) (q := 208) rfl rfl rfl h1 h2 (fun c3 => ?_) (fun c3 => ?_)
  · replace k := k.1 c3
    refine w_iconst (q := 250) rfl rfl ?_
    refine w_iret rfl rfl k
  · replace k := k.2 c3
    refine w_aload_n (q := 209) rfl rfl rfl ?_
    refine w_aload_n (q := 210) rfl rfl rfl ?_
    refine w_gfr (q := 213) rfl rfl rfl rfl (j := 110) rfl ?_
    refine w_bipush (q := 215) rfl rfl rfl ?_
    refine w_iconst (q := 216) rfl rfl ?_
    refine w_iload (q := 218) rfl rfl rfl ?_
    refine w_imul (q := 219) rfl rfl ?_
    refine w_iadd (q := 220) rfl rfl ?_
    obtain ⟨h4, k⟩ := k
    refine w_iald (q := 221) (n := 2800) (v := I 110 (80 + 2 * l9)) rfl rfl rfl rfl rfl rfl h4 ?_
    refine w_aload_n (q := 222) rfl rfl rfl ?_
    refine w_gfr (q := 225) rfl rfl rfl rfl (j := 110) rfl ?_
    refine w_bipush (q := 227) rfl rfl rfl ?_
    refine w_iconst (q := 228) rfl rfl ?_
    refine w_iload (q := 230) rfl rfl rfl ?_
    refine w_imul (q := 231) rfl rfl ?_
    refine w_iadd (q := 232) rfl rfl ?_
    refine w_iconst (q := 233) rfl rfl ?_
    refine w_iadd (q := 234) rfl rfl ?_
    obtain ⟨h5, k⟩ := k
    refine w_iald (q := 235) (n := 2800) (v := I 110 (80 + 2 * l9 + 1)) rfl rfl rfl rfl rfl rfl h5 ?_
    refine w_callv (q := 238) rfl rfl rfl rfl rfl rfl ?_
    exact k
theorem b232_238 {xs : Nat → Int32} {xl : Nat} {I J : w_I} {b : Bool} {Q : Option Value → w_I → w_I → Bool → Prop} {u1 u2 u3 u4 u5 u6 u7 u8 : Option Value} {l9 s0 : Int} (k : ((-2147483648 ≤ s0 ∧ s0 < 2147483648) ∧ ((s0 = 0 → w_T xs xl 232 197 [some (.ref 104), u1, u2, u3, u4, u5, u6, u7, u8, some (w_i (l9 + 1))] [] [] I J b Q) ∧ (¬ s0 = 0 → Q (some (w_i 0)) I J b)))) : w_T xs xl 232 238 [some (.ref 104), u1, u2, u3, u4, u5, u6, u7, u8, some (w_i l9)] [] [w_i s0] I J b Q := by
  obtain ⟨h1, k⟩ := k
  refine w_zeq (t := 243) (q := 241) rfl rfl rfl h1 (fun c2 => ?_) (fun c2 => ?_)
  · replace k := k.1 c2
    refine w_iinc (q := 246) (L' := [some (.ref 104), u1, u2, u3, u4, u5, u6, u7, u8, some (w_i (l9 + 1))]) (M' := []) rfl rfl rfl rfl rfl rfl ?_
    refine w_goto (t := 197) rfl rfl ?_
    exact k
  · replace k := k.2 c2
    refine w_iconst (q := 242) rfl rfl ?_
    refine w_iret rfl rfl k
theorem e233 {xs : Nat → Int32} {xl : Nat} {I J : w_I} {b : Bool} {Q : Option Value → w_I → w_I → Bool → Prop} {a1 : Int} (t : w_T xs xl 233 0 [some (.ref 104), some (w_i a1), none, none, none] [] [] I J b Q) : w_C xs xl 233 [.ref 104, w_i a1] I J b Q := w_en rfl t
theorem b233_0 {xs : Nat → Int32} {xl : Nat} {I J : w_I} {b : Bool} {Q : Option Value → w_I → w_I → Bool → Prop} {a1 : Int} (k : w_T xs xl 233 4 [some (.ref 104), some (w_i a1), some (w_i 0), some (w_i 0), none] [] [] I J b Q) : w_T xs xl 233 0 [some (.ref 104), some (w_i a1), none, none, none] [] [] I J b Q := by
  refine w_iconst (q := 1) rfl rfl ?_
  refine w_istore_n (q := 2) (L' := [some (.ref 104), some (w_i a1), some (w_i 0), none, none]) (M' := []) rfl rfl rfl rfl rfl ?_
  refine w_iconst (q := 3) rfl rfl ?_
  refine w_istore_n (q := 4) (L' := [some (.ref 104), some (w_i a1), some (w_i 0), some (w_i 0), none]) (M' := []) rfl rfl rfl rfl rfl ?_
  exact k
theorem b233_4 {xs : Nat → Int32} {xl : Nat} {I J : w_I} {b : Bool} {Q : Option Value → w_I → w_I → Bool → Prop} {l1 l2 l3 : Int} {u4 : Option Value} (k : ((-2147483648 ≤ l3 ∧ l3 < 2147483648) ∧ (-2147483648 ≤ I 110 0 ∧ I 110 0 < 2147483648) ∧ ((I 110 0 ≤ l3 → Q (some (w_i l2)) I J b) ∧ (¬ I 110 0 ≤ l3 → w_T xs xl 233 19 [some (.ref 104), some (w_i l1), some (w_i l2), some (w_i l3), some (w_i (l3 + 1))] [] [] I J b Q)))) : w_T xs xl 233 4 [some (.ref 104), some (w_i l1), some (w_i l2), some (w_i l3), u4] [] [] I J b Q := by
  refine w_iload_n (q := 5) rfl rfl rfl ?_
  refine w_aload_n (q := 6) rfl rfl rfl ?_
  refine w_gfr (q := 9) rfl rfl rfl rfl (j := 110) rfl ?_
  refine w_iconst (q := 10) rfl rfl ?_
  refine w_iald (q := 11) (n := 2800) (v := I 110 0) rfl rfl rfl rfl rfl rfl (by decide) ?_
  obtain ⟨h1, h2, k⟩ := k
  refine w_cge (t := 61) (q := 14) rfl rfl rfl h1 h2 (fun c3 => ?_) (fun c3 => ?_)
  · replace k := k.1 c3
    refine w_iload_n (q := 62) rfl rfl rfl ?_
    exact w_iret rfl rfl k
  · replace k := k.2 c3
    refine w_iload_n (q := 15) rfl rfl rfl ?_
    refine w_iconst (q := 16) rfl rfl ?_
    refine w_iadd (q := 17) rfl rfl ?_
    refine w_istore (q := 19) (L' := [some (.ref 104), some (w_i l1), some (w_i l2), some (w_i l3), some (w_i (l3 + 1))]) (M' := []) rfl rfl rfl rfl rfl ?_
    exact k
theorem b233_19 {xs : Nat → Int32} {xl : Nat} {I J : w_I} {b : Bool} {Q : Option Value → w_I → w_I → Bool → Prop} {l1 l2 l3 l4 : Int} (k : ((-2147483648 ≤ l4 ∧ l4 < 2147483648) ∧ (-2147483648 ≤ I 110 0 ∧ I 110 0 < 2147483648) ∧ ((I 110 0 ≤ l4 → w_T xs xl 233 4 [some (.ref 104), some (w_i l1), some (w_i l2), some (w_i (l3 + 1)), some (w_i l4)] [] [] I J b Q) ∧ (¬ I 110 0 ≤ l4 → w_C xs xl 232 [.ref 104, w_i l3, w_i l4, w_i l1] I J b (fun v Ic Jc bc => w_T xs xl 233 39 [some (.ref 104), some (w_i l1), some (w_i l2), some (w_i l3), some (w_i l4)] [] (w_pv v [w_i l2]) Ic Jc bc Q))))) : w_T xs xl 233 19 [some (.ref 104), some (w_i l1), some (w_i l2), some (w_i l3), some (w_i l4)] [] [] I J b Q := by
  refine w_iload (q := 21) rfl rfl rfl ?_
  refine w_aload_n (q := 22) rfl rfl rfl ?_
  refine w_gfr (q := 25) rfl rfl rfl rfl (j := 110) rfl ?_
  refine w_iconst (q := 26) rfl rfl ?_
  refine w_iald (q := 27) (n := 2800) (v := I 110 0) rfl rfl rfl rfl rfl rfl (by decide) ?_
  obtain ⟨h1, h2, k⟩ := k
  refine w_cge (t := 55) (q := 30) rfl rfl rfl h1 h2 (fun c3 => ?_) (fun c3 => ?_)
  · replace k := k.1 c3
    refine w_iinc (q := 58) (L' := [some (.ref 104), some (w_i l1), some (w_i l2), some (w_i (l3 + 1)), some (w_i l4)]) (M' := []) rfl rfl rfl rfl rfl rfl ?_
    refine w_goto (t := 4) rfl rfl ?_
    exact k
  · replace k := k.2 c3
    refine w_iload_n (q := 31) rfl rfl rfl ?_
    refine w_aload_n (q := 32) rfl rfl rfl ?_
    refine w_iload_n (q := 33) rfl rfl rfl ?_
    refine w_iload (q := 35) rfl rfl rfl ?_
    refine w_iload_n (q := 36) rfl rfl rfl ?_
    refine w_callv (q := 39) rfl rfl rfl rfl rfl rfl ?_
    exact k
theorem b233_39 {xs : Nat → Int32} {xl : Nat} {I J : w_I} {b : Bool} {Q : Option Value → w_I → w_I → Bool → Prop} {l1 l3 l4 s0 s1 : Int} {u2 : Option Value} (k : ((-2147483648 ≤ s1 ∧ s1 < 2147483648) ∧ ((s1 = 0 → w_T xs xl 233 19 [some (.ref 104), some (w_i l1), some (w_i (s0 + 0)), some (w_i l3), some (w_i (l4 + 1))] [] [] I J b Q) ∧ (¬ s1 = 0 → w_T xs xl 233 19 [some (.ref 104), some (w_i l1), some (w_i (s0 + 1)), some (w_i l3), some (w_i (l4 + 1))] [] [] I J b Q)))) : w_T xs xl 233 39 [some (.ref 104), some (w_i l1), u2, some (w_i l3), some (w_i l4)] [] [w_i s1, w_i s0] I J b Q := by
  obtain ⟨h1, k⟩ := k
  refine w_zeq (t := 46) (q := 42) rfl rfl rfl h1 (fun c2 => ?_) (fun c2 => ?_)
  · replace k := k.1 c2
    refine w_iconst (q := 47) rfl rfl ?_
    refine w_iadd (q := 48) rfl rfl ?_
    refine w_istore_n (q := 49) (L' := [some (.ref 104), some (w_i l1), some (w_i (s0 + 0)), some (w_i l3), some (w_i l4)]) (M' := []) rfl rfl rfl rfl rfl ?_
    refine w_iinc (q := 52) (L' := [some (.ref 104), some (w_i l1), some (w_i (s0 + 0)), some (w_i l3), some (w_i (l4 + 1))]) (M' := []) rfl rfl rfl rfl rfl rfl ?_
    refine w_goto (t := 19) rfl rfl ?_
    exact k
  · replace k := k.2 c2
    refine w_iconst (q := 43) rfl rfl ?_
    refine w_goto (t := 47) rfl rfl ?_
    refine w_iadd (q := 48) rfl rfl ?_
    refine w_istore_n (q := 49) (L' := [some (.ref 104), some (w_i l1), some (w_i (s0 + 1)), some (w_i l3), some (w_i l4)]) (M' := []) rfl rfl rfl rfl rfl ?_
    refine w_iinc (q := 52) (L' := [some (.ref 104), some (w_i l1), some (w_i (s0 + 1)), some (w_i l3), some (w_i (l4 + 1))]) (M' := []) rfl rfl rfl rfl rfl rfl ?_
    refine w_goto (t := 19) rfl rfl ?_
    exact k
theorem e234 {xs : Nat → Int32} {xl : Nat} {I J : w_I} {b : Bool} {Q : Option Value → w_I → w_I → Bool → Prop} {a1 : Int} (t : w_T xs xl 234 0 [some (.ref 104), some (w_i a1)] [] [] I J b Q) : w_C xs xl 234 [.ref 104, w_i a1] I J b Q := w_en rfl t
theorem b234_0 {xs : Nat → Int32} {xl : Nat} {I J : w_I} {b : Bool} {Q : Option Value → w_I → w_I → Bool → Prop} {a1 : Int} (k : w_C xs xl 209 [w_i a1, w_i 0, w_i 2] I J b (fun v Ic Jc bc => w_T xs xl 234 6 [some (.ref 104), some (w_i a1)] [] (w_pv v []) Ic Jc bc Q)) : w_T xs xl 234 0 [some (.ref 104), some (w_i a1)] [] [] I J b Q := by
  refine w_iload_n (q := 1) rfl rfl rfl ?_
  refine w_iconst (q := 2) rfl rfl ?_
  refine w_iconst (q := 3) rfl rfl ?_
  refine w_call (q := 6) rfl rfl rfl rfl rfl ?_
  exact k
theorem b234_6 {xs : Nat → Int32} {xl : Nat} {I J : w_I} {b : Bool} {Q : Option Value → w_I → w_I → Bool → Prop} {l1 s0 : Int} (k : ((-2147483648 ≤ s0 ∧ s0 < 2147483648) ∧ ((s0 = 0 → Q (some (w_i (-1))) I J b) ∧ (¬ s0 = 0 → w_C xs xl 233 [.ref 104, w_i l1] I J b (fun v Ic Jc bc => w_T xs xl 234 14 [some (.ref 104), some (w_i l1)] [] (w_pv v []) Ic Jc bc Q))))) : w_T xs xl 234 6 [some (.ref 104), some (w_i l1)] [] [w_i s0] I J b Q := by
  obtain ⟨h1, k⟩ := k
  refine w_zeq (t := 17) (q := 9) rfl rfl rfl h1 (fun c2 => ?_) (fun c2 => ?_)
  · replace k := k.1 c2
    refine w_iconst (q := 18) rfl rfl ?_
    exact w_iret rfl rfl k
  · replace k := k.2 c2
    refine w_aload_n (q := 10) rfl rfl rfl ?_
    refine w_iload_n (q := 11) rfl rfl rfl ?_
    refine w_callv (q := 14) rfl rfl rfl rfl rfl rfl ?_
    exact k
theorem b234_14 {xs : Nat → Int32} {xl : Nat} {I J : w_I} {b : Bool} {Q : Option Value → w_I → w_I → Bool → Prop} {u1 : Option Value} {s0 : Int} (k : Q (some (w_i s0)) I J b) : w_T xs xl 234 14 [some (.ref 104), u1] [] [w_i s0] I J b Q := by
  refine w_goto (t := 18) rfl rfl ?_
  exact w_iret rfl rfl k
theorem e235 {xs : Nat → Int32} {xl : Nat} {I J : w_I} {b : Bool} {Q : Option Value → w_I → w_I → Bool → Prop} {a1 : Int} (t : w_T xs xl 235 0 [some (.ref 104), some (w_i a1), none, none, none] [] [] I J b Q) : w_C xs xl 235 [.ref 104, w_i a1] I J b Q := w_en rfl t
theorem b235_0 {xs : Nat → Int32} {xl : Nat} {I J : w_I} {b : Bool} {Q : Option Value → w_I → w_I → Bool → Prop} {a1 : Int} (k : w_T xs xl 235 4 [some (.ref 104), some (w_i a1), some (w_i 0), some (w_i 0), none] [] [] I J b Q) : w_T xs xl 235 0 [some (.ref 104), some (w_i a1), none, none, none] [] [] I J b Q := by
  refine w_iconst (q := 1) rfl rfl ?_
  refine w_istore_n (q := 2) (L' := [some (.ref 104), some (w_i a1), some (w_i 0), none, none]) (M' := []) rfl rfl rfl rfl rfl ?_
  refine w_iconst (q := 3) rfl rfl ?_
  refine w_istore_n (q := 4) (L' := [some (.ref 104), some (w_i a1), some (w_i 0), some (w_i 0), none]) (M' := []) rfl rfl rfl rfl rfl ?_
  exact k
theorem b235_4 {xs : Nat → Int32} {xl : Nat} {I J : w_I} {b : Bool} {Q : Option Value → w_I → w_I → Bool → Prop} {l1 l2 l3 : Int} {u4 : Option Value} (k : ((-2147483648 ≤ l3 ∧ l3 < 2147483648) ∧ (-2147483648 ≤ I 110 0 ∧ I 110 0 < 2147483648) ∧ ((I 110 0 ≤ l3 → Q (some (w_i (-1))) I J b) ∧ (¬ I 110 0 ≤ l3 → w_T xs xl 235 19 [some (.ref 104), some (w_i l1), some (w_i l2), some (w_i l3), some (w_i (l3 + 1))] [] [] I J b Q)))) : w_T xs xl 235 4 [some (.ref 104), some (w_i l1), some (w_i l2), some (w_i l3), u4] [] [] I J b Q := by
  refine w_iload_n (q := 5) rfl rfl rfl ?_
  refine w_aload_n (q := 6) rfl rfl rfl ?_
  refine w_gfr (q := 9) rfl rfl rfl rfl (j := 110) rfl ?_
  refine w_iconst (q := 10) rfl rfl ?_
  refine w_iald (q := 11) (n := 2800) (v := I 110 0) rfl rfl rfl rfl rfl rfl (by decide) ?_
  obtain ⟨h1, h2, k⟩ := k
  refine w_cge (t := 72) (q := 14) rfl rfl rfl h1 h2 (fun c3 => ?_) (fun c3 => ?_)
  · replace k := k.1 c3
    refine w_iconst (q := 73) rfl rfl ?_
    exact w_iret rfl rfl k
  · replace k := k.2 c3
    refine w_iload_n (q := 15) rfl rfl rfl ?_
    refine w_iconst (q := 16) rfl rfl ?_
    refine w_iadd (q := 17) rfl rfl ?_
    refine w_istore (q := 19) (L' := [some (.ref 104), some (w_i l1), some (w_i l2), some (w_i l3), some (w_i (l3 + 1))]) (M' := []) rfl rfl rfl rfl rfl ?_
    exact k
theorem b235_19 {xs : Nat → Int32} {xl : Nat} {I J : w_I} {b : Bool} {Q : Option Value → w_I → w_I → Bool → Prop} {l1 l2 l3 l4 : Int} (k : ((-2147483648 ≤ l4 ∧ l4 < 2147483648) ∧ (-2147483648 ≤ I 110 0 ∧ I 110 0 < 2147483648) ∧ ((I 110 0 ≤ l4 → w_T xs xl 235 4 [some (.ref 104), some (w_i l1), some (w_i l2), some (w_i (l3 + 1)), some (w_i l4)] [] [] I J b Q) ∧ (¬ I 110 0 ≤ l4 → w_C xs xl 232 [.ref 104, w_i l3, w_i l4, w_i 0] I J b (fun v Ic Jc bc => w_T xs xl 235 38 [some (.ref 104), some (w_i l1), some (w_i l2), some (w_i l3), some (w_i l4)] [] (w_pv v []) Ic Jc bc Q))))) : w_T xs xl 235 19 [some (.ref 104), some (w_i l1), some (w_i l2), some (w_i l3), some (w_i l4)] [] [] I J b Q := by
  refine w_iload (q := 21) rfl rfl rfl ?_
  refine w_aload_n (q := 22) rfl rfl rfl ?_
  refine w_gfr (q := 25) rfl rfl rfl rfl (j := 110) rfl ?_
  refine w_iconst (q := 26) rfl rfl ?_
  refine w_iald (q := 27) (n := 2800) (v := I 110 0) rfl rfl rfl rfl rfl rfl (by decide) ?_
  obtain ⟨h1, h2, k⟩ := k
  refine w_cge (t := 66) (q := 30) rfl rfl rfl h1 h2 (fun c3 => ?_) (fun c3 => ?_)
  · replace k := k.1 c3
    refine w_iinc (q := 69) (L' := [some (.ref 104), some (w_i l1), some (w_i l2), some (w_i (l3 + 1)), some (w_i l4)]) (M' := []) rfl rfl rfl rfl rfl rfl ?_
    refine w_goto (t := 4) rfl rfl ?_
    exact k
  · replace k := k.2 c3
    refine w_aload_n (q := 31) rfl rfl rfl ?_
    refine w_iload_n (q := 32) rfl rfl rfl ?_
    refine w_iload (q := 34) rfl rfl rfl ?_
    refine w_iconst (q := 35) rfl rfl ?_
    refine w_callv (q := 38) rfl rfl rfl rfl rfl rfl ?_
    exact k
theorem b235_38 {xs : Nat → Int32} {xl : Nat} {I J : w_I} {b : Bool} {Q : Option Value → w_I → w_I → Bool → Prop} {l1 l2 l3 l4 s0 : Int} (k : ((-2147483648 ≤ s0 ∧ s0 < 2147483648) ∧ ((¬ s0 = 0 → ((-2147483648 ≤ l2 ∧ l2 < 2147483648) ∧ (-2147483648 ≤ l1 ∧ l1 < 2147483648) ∧ ((¬ l2 = l1 → w_T xs xl 235 19 [some (.ref 104), some (w_i l1), some (w_i (l2 + 1)), some (w_i l3), some (w_i (l4 + 1))] [] [] I J b Q) ∧ (l2 = l1 → Q (some (w_i (100 * l3 + l4))) I J b)))) ∧ (s0 = 0 → w_T xs xl 235 19 [some (.ref 104), some (w_i l1), some (w_i l2), some (w_i l3), some (w_i (l4 + 1))] [] [] I J b Q)))) : w_T xs xl 235 38 [some (.ref 104), some (w_i l1), some (w_i l2), some (w_i l3), some (w_i l4)] [] [w_i s0] I J b Q := by
  obtain ⟨h1, k⟩ := k
  refine w_zne (t := 44) (q := 41) rfl rfl rfl h1 (fun c2 => ?_) (fun c2 => ?_)
  · replace k := k.1 c2
    refine w_iload_n (q := 45) rfl rfl rfl ?_
    refine w_iload_n (q := 46) rfl rfl rfl ?_
    obtain ⟨h3, h4, k⟩ := k
    refine w_cne (t := 57) (q := 49) rfl rfl rfl h3 h4 (fun c5 => ?_) (fun c5 => ?_)
    · replace k := k.1 c5
      refine w_iinc (q := 60) (L' := [some (.ref 104), some (w_i l1), some (w_i (l2 + 1)), some (w_i l3), some (w_i l4)]) (M' := []) rfl rfl rfl rfl rfl rfl ?_
      refine w_iinc (q := 63) (L' := [some (.ref 104), some (w_i l1), some (w_i (l2 + 1)), some (w_i l3), some (w_i (l4 + 1))]) (M' := []) rfl rfl rfl rfl rfl rfl ?_
      refine w_goto (t := 19) rfl rfl ?_
      exact k
    · replace k := k.2 c5
      refine w_bipush (q := 51) rfl rfl rfl ?_
      refine w_iload_n (q := 52) rfl rfl rfl ?_
      refine w_imul (q := 53) rfl rfl ?_
      refine w_iload (q := 55) rfl rfl rfl ?_
      refine w_iadd (q := 56) rfl rfl ?_
      exact w_iret rfl rfl k
  · replace k := k.2 c2
    refine w_goto (t := 60) rfl rfl ?_
    refine w_iinc (q := 63) (L' := [some (.ref 104), some (w_i l1), some (w_i l2), some (w_i l3), some (w_i (l4 + 1))]) (M' := []) rfl rfl rfl rfl rfl rfl ?_
    refine w_goto (t := 19) rfl rfl ?_
    exact k
theorem e236 {xs : Nat → Int32} {xl : Nat} {I J : w_I} {b : Bool} {Q : Option Value → w_I → w_I → Bool → Prop} (t : w_T xs xl 236 0 [some (.ref 104), none, none, none] [] [] I J b Q) : w_C xs xl 236 [.ref 104] I J b Q := w_en rfl t
theorem b236_0 {xs : Nat → Int32} {xl : Nat} {I J : w_I} {b : Bool} {Q : Option Value → w_I → w_I → Bool → Prop} (k : w_T xs xl 236 6 [some (.ref 104), some (w_i 0), some (w_i 0), some (w_i 0)] [] [] I J b Q) : w_T xs xl 236 0 [some (.ref 104), none, none, none] [] [] I J b Q := by
  refine w_iconst (q := 1) rfl rfl ?_
  refine w_istore_n (q := 2) (L' := [some (.ref 104), some (w_i 0), none, none]) (M' := []) rfl rfl rfl rfl rfl ?_
  refine w_iconst (q := 3) rfl rfl ?_
  refine w_istore_n (q := 4) (L' := [some (.ref 104), some (w_i 0), some (w_i 0), none]) (M' := []) rfl rfl rfl rfl rfl ?_
  refine w_iconst (q := 5) rfl rfl ?_
  refine w_istore_n (q := 6) (L' := [some (.ref 104), some (w_i 0), some (w_i 0), some (w_i 0)]) (M' := []) rfl rfl rfl rfl rfl ?_
  exact k
theorem b236_6 {xs : Nat → Int32} {xl : Nat} {I J : w_I} {b : Bool} {Q : Option Value → w_I → w_I → Bool → Prop} {l1 l2 l3 : Int} (k : ((-2147483648 ≤ l3 ∧ l3 < 2147483648) ∧ (-2147483648 ≤ I 110 0 ∧ I 110 0 < 2147483648) ∧ ((I 110 0 ≤ l3 → ((-2147483648 ≤ l1 ∧ l1 < 2147483648) ∧ ((l1 = 0 → Q (some (w_i 0)) I J b) ∧ (¬ l1 = 0 → ((-2147483648 ≤ l2 ∧ l2 < 2147483648) ∧ ((l2 = 0 → Q (some (w_i 0)) I J b) ∧ (¬ l2 = 0 → Q (some (w_i 1)) I J b))))))) ∧ (¬ I 110 0 ≤ l3 → ((-2147483648 ≤ l1 ∧ l1 < 2147483648) ∧ ((¬ l1 = 0 → ((-2147483648 ≤ l2 ∧ l2 < 2147483648) ∧ ((¬ l2 = 0 → w_T xs xl 236 6 [some (.ref 104), some (w_i 1), some (w_i 1), some (w_i (l3 + 1))] [] [] I J b Q) ∧ (l2 = 0 → ((0 ≤ 20 + l3 ∧ 20 + l3 < 2800) ∧ ((-2147483648 ≤ I 110 (20 + l3) ∧ I 110 (20 + l3) < 2147483648) ∧ ((¬ I 110 (20 + l3) = 2 → w_T xs xl 236 6 [some (.ref 104), some (w_i 1), some (w_i 0), some (w_i (l3 + 1))] [] [] I J b Q) ∧ (I 110 (20 + l3) = 2 → w_T xs xl 236 6 [some (.ref 104), some (w_i 1), some (w_i 1), some (w_i (l3 + 1))] [] [] I J b Q)))))))) ∧ (l1 = 0 → ((0 ≤ 20 + l3 ∧ 20 + l3 < 2800) ∧ ((-2147483648 ≤ I 110 (20 + l3) ∧ I 110 (20 + l3) < 2147483648) ∧ ((¬ I 110 (20 + l3) = 1 → ((-2147483648 ≤ l2 ∧ l2 < 2147483648) ∧ ((¬ l2 = 0 → w_T xs xl 236 6 [some (.ref 104), some (w_i 0), some (w_i 1), some (w_i (l3 + 1))] [] [] I J b Q) ∧ (l2 = 0 → ((¬ I 110 (20 + l3) = 2 → w_T xs xl 236 6 [some (.ref 104), some (w_i 0), some (w_i 0), some (w_i (l3 + 1))] [] [] I J b Q) ∧ (I 110 (20 + l3) = 2 → w_T xs xl 236 6 [some (.ref 104), some (w_i 0), some (w_i 1), some (w_i (l3 + 1))] [] [] I J b Q)))))) ∧ (I 110 (20 + l3) = 1 → ((-2147483648 ≤ l2 ∧ l2 < 2147483648) ∧ ((¬ l2 = 0 → w_T xs xl 236 6 [some (.ref 104), some (w_i 1), some (w_i 1), some (w_i (l3 + 1))] [] [] I J b Q) ∧ (l2 = 0 → ((¬ I 110 (20 + l3) = 2 → w_T xs xl 236 6 [some (.ref 104), some (w_i 1), some (w_i 0), some (w_i (l3 + 1))] [] [] I J b Q) ∧ (I 110 (20 + l3) = 2 → w_T xs xl 236 6 [some (.ref 104), some (w_i 1), some (w_i 1), some (w_i (l3 + 1))] [] [] I J b Q)))))))))))))))) : w_T xs xl 236 6 [some (.ref 104), some (w_i l1), some (w_i l2), some (w_i l3)] [] [] I J b Q := by
  refine w_iload_n (q := 7) rfl rfl rfl ?_
  refine w_aload_n (q := 8) rfl rfl rfl ?_
  refine w_gfr (q := 11) rfl rfl rfl rfl (j := 110) rfl ?_
  refine w_iconst (q := 12) rfl rfl ?_
  refine w_iald (q := 13) (n := 2800) (v := I 110 0) rfl rfl rfl rfl rfl rfl (by decide) ?_
  obtain ⟨h1, h2, k⟩ := k
  refine w_cge (t := 68) (q := 16) rfl rfl rfl h1 h2 (fun c3 => ?_) (fun c3 => ?_)
  · replace k := k.1 c3
    refine w_iload_n (q := 69) rfl rfl rfl ?_
    obtain ⟨h4, k⟩ := k
    refine w_zeq (t := 80) (q := 72) rfl rfl rfl h4 (fun c5 => ?_) (fun c5 => ?_)
    · replace k := k.1 c5
      refine w_iconst (q := 81) rfl rfl ?_
      refine w_iret rfl rfl k
    · replace k := k.2 c5
      refine w_iload_n (q := 73) rfl rfl rfl ?_
      obtain ⟨h6, k⟩ := k
      refine w_zeq (t := 80) (q := 76) rfl rfl rfl h6 (fun c7 => ?_) (fun c7 => ?_)
      · replace k := k.1 c7
        refine w_iconst (q := 81) rfl rfl ?_
        refine w_iret rfl rfl k
      · replace k := k.2 c7
        refine w_iconst (q := 77) rfl rfl ?_
        refine w_goto (t := 81) rfl rfl ?_
        refine w_iret rfl rfl k
  · replace k := k.2 c3
    refine w_iload_n (q := 17) rfl rfl rfl ?_
    obtain ⟨h8, k⟩ := k
    refine w_zne (t := 33) (q := 20) rfl rfl rfl h8 (fun c9 => ?_) (fun c9 => ?_)
    · replace k := k.1 c9
      refine w_iconst (q := 34) rfl rfl ?_
      refine w_goto (t := 38) rfl rfl ?_
      refine w_istore_n (q := 39) (L' := [some (.ref 104), some (w_i 1), some (w_i l2), some (w_i l3)]) (M' := []) rfl rfl rfl rfl rfl ?_
      refine w_iload_n (q := 40) rfl rfl rfl ?_
      obtain ⟨h10, k⟩ := k
      refine w_zne (t := 56) (q := 43) rfl rfl rfl h10 (fun c11 => ?_) (fun c11 => ?_)
      · replace k := k.1 c11
        refine w_iconst (q := 57) rfl rfl ?_
        refine w_goto (t := 61) rfl rfl ?_
        refine w_istore_n (q := 62) (L' := [some (.ref 104), some (w_i 1), some (w_i 1), some (w_i l3)]) (M' := []) rfl rfl rfl rfl rfl ?_
        refine w_iinc (q := 65) (L' := [some (.ref 104), some (w_i 1), some (w_i 1), some (w_i (l3 + 1))]) (M' := []) rfl rfl rfl rfl rfl rfl ?_
        refine w_goto (t := 6) rfl rfl ?_
        exact k
      · replace k := k.2 c11
        refine w_aload_n (q := 44) rfl rfl rfl ?_
        refine w_gfr (q := 47) rfl rfl rfl rfl (j := 110) rfl ?_
        refine w_bipush (q := 49) rfl rfl rfl ?_
        refine w_iload_n (q := 50) rfl rfl rfl ?_
        refine w_iadd (q := 51) rfl rfl ?_
        obtain ⟨h12, k⟩ := k
        refine w_iald (q := 52) (n := 2800) (v := I 110 (20 + l3)) rfl rfl rfl rfl rfl rfl h12 ?_
        refine w_iconst (q := 53) rfl rfl ?_
        obtain ⟨h13, k⟩ := k
        refine w_cne (t := 60) (q := 56) rfl rfl rfl h13 (by decide) (fun c14 => ?_) (fun c14 => ?_)
        · replace k := k.1 c14
          refine w_iconst (q := 61) rfl rfl ?_
          refine w_istore_n (q := 62) (L' := [some (.ref 104), some (w_i 1), some (w_i 0), some (w_i l3)]) (M' := []) rfl rfl rfl rfl rfl ?_
          refine w_iinc (q := 65) (L' := [some (.ref 104), some (w_i 1), some (w_i 0), some (w_i (l3 + 1))]) (M' := []) rfl rfl rfl rfl rfl rfl ?_
          refine w_goto (t := 6) rfl rfl ?_
          exact k
        · replace k := k.2 c14
          refine w_iconst (q := 57) rfl rfl ?_
          refine w_goto (t := 61) rfl rfl ?_
          refine w_istore_n (q := 62) (L' := [some (.ref 104), some (w_i 1), some (w_i 1), some (w_i l3)]) (M' := []) rfl rfl rfl rfl rfl ?_
          refine w_iinc (q := 65) (L' := [some (.ref 104), some (w_i 1), some (w_i 1), some (w_i (l3 + 1))]) (M' := []) rfl rfl rfl rfl rfl rfl ?_
          refine w_goto (t := 6) rfl rfl ?_
          exact k
    · replace k := k.2 c9
      refine w_aload_n (q := 21) rfl rfl rfl ?_
      refine w_gfr (q := 24) rfl rfl rfl rfl (j := 110) rfl ?_
      refine w_bipush (q := 26) rfl rfl rfl ?_
      refine w_iload_n (q := 27) rfl rfl rfl ?_
      refine w_iadd (q := 28) rfl rfl ?_
      obtain ⟨h15, k⟩ := k
      refine w_iald (q := 29) (n := 2800) (v := I 110 (20 + l3)) rfl rfl rfl rfl rfl rfl h15 ?_
      refine w_iconst (q := 30) rfl rfl ?_
      obtain ⟨h16, k⟩ := k
      refine w_cne (t := 37) (q := 33) rfl rfl rfl h16 (by decide) (fun c17 => ?_) (fun c17 => ?_)
      · replace k := k.1 c17
        refine w_iconst (q := 38) rfl rfl ?_
        refine w_istore_n (q := 39) (L' := [some (.ref 104), some (w_i 0), some (w_i l2), some (w_i l3)]) (M' := []) rfl rfl rfl rfl rfl ?_
        refine w_iload_n (q := 40) rfl rfl rfl ?_
        obtain ⟨h18, k⟩ := k
        refine w_zne (t := 56) (q := 43) rfl rfl rfl h18 (fun c19 => ?_) (fun c19 => ?_)
        · replace k := k.1 c19
          refine w_iconst (q := 57) rfl rfl ?_
          refine w_goto (t := 61) rfl rfl ?_
          refine w_istore_n (q := 62) (L' := [some (.ref 104), some (w_i 0), some (w_i 1), some (w_i l3)]) (M' := []) rfl rfl rfl rfl rfl ?_
          refine w_iinc (q := 65) (L' := [some (.ref 104), some (w_i 0), some (w_i 1), some (w_i (l3 + 1))]) (M' := []) rfl rfl rfl rfl rfl rfl ?_
          refine w_goto (t := 6) rfl rfl ?_
          exact k
        · replace k := k.2 c19
          refine w_aload_n (q := 44) rfl rfl rfl ?_
          refine w_gfr (q := 47) rfl rfl rfl rfl (j := 110) rfl ?_
          refine w_bipush (q := 49) rfl rfl rfl ?_
          refine w_iload_n (q := 50) rfl rfl rfl ?_
          refine w_iadd (q := 51) rfl rfl ?_
          refine w_iald (q := 52) (n := 2800) (v := I 110 (20 + l3)) rfl rfl rfl rfl rfl rfl h15 ?_
          refine w_iconst (q := 53) rfl rfl ?_
          refine w_cne (t := 60) (q := 56) rfl rfl rfl h16 (by decide) (fun c20 => ?_) (fun c20 => ?_)
          · replace k := k.1 c20
            refine w_iconst (q := 61) rfl rfl ?_
            refine w_istore_n (q := 62) (L' := [some (.ref 104), some (w_i 0), some (w_i 0), some (w_i l3)]) (M' := []) rfl rfl rfl rfl rfl ?_
            refine w_iinc (q := 65) (L' := [some (.ref 104), some (w_i 0), some (w_i 0), some (w_i (l3 + 1))]) (M' := []) rfl rfl rfl rfl rfl rfl ?_
            refine w_goto (t := 6) rfl rfl ?_
            exact k
          · replace k := k.2 c20
            refine w_iconst (q := 57) rfl rfl ?_
            refine w_goto (t := 61) rfl rfl ?_
            refine w_istore_n (q := 62) (L' := [some (.ref 104), some (w_i 0), some (w_i 1), some (w_i l3)]) (M' := []) rfl rfl rfl rfl rfl ?_
            refine w_iinc (q := 65) (L' := [some (.ref 104), some (w_i 0), some (w_i 1), some (w_i (l3 + 1))]) (M' := []) rfl rfl rfl rfl rfl rfl ?_
            refine w_goto (t := 6) rfl rfl ?_
            exact k
      · replace k := k.2 c17
        refine w_iconst (q := 34) rfl rfl ?_
        refine w_goto (t := 38) rfl rfl ?_
        refine w_istore_n (q := 39) (L' := [some (.ref 104), some (w_i 1), some (w_i l2), some (w_i l3)]) (M' := []) rfl rfl rfl rfl rfl ?_
        refine w_iload_n (q := 40) rfl rfl rfl ?_
        obtain ⟨h21, k⟩ := k
        refine w_zne (t := 56) (q := 43) rfl rfl rfl h21 (fun c22 => ?_) (fun c22 => ?_)
        · replace k := k.1 c22
          refine w_iconst (q := 57) rfl rfl ?_
          refine w_goto (t := 61) rfl rfl ?_
          refine w_istore_n (q := 62) (L' := [some (.ref 104), some (w_i 1), some (w_i 1), some (w_i l3)]) (M' := []) rfl rfl rfl rfl rfl ?_
          refine w_iinc (q := 65) (L' := [some (.ref 104), some (w_i 1), some (w_i 1), some (w_i (l3 + 1))]) (M' := []) rfl rfl rfl rfl rfl rfl ?_
          refine w_goto (t := 6) rfl rfl ?_
          exact k
        · replace k := k.2 c22
          refine w_aload_n (q := 44) rfl rfl rfl ?_
          refine w_gfr (q := 47) rfl rfl rfl rfl (j := 110) rfl ?_
          refine w_bipush (q := 49) rfl rfl rfl ?_
          refine w_iload_n (q := 50) rfl rfl rfl ?_
          refine w_iadd (q := 51) rfl rfl ?_
          refine w_iald (q := 52) (n := 2800) (v := I 110 (20 + l3)) rfl rfl rfl rfl rfl rfl h15 ?_
          refine w_iconst (q := 53) rfl rfl ?_
          refine w_cne (t := 60) (q := 56) rfl rfl rfl h16 (by decide) (fun c23 => ?_) (fun c23 => ?_)
          · replace k := k.1 c23
            refine w_iconst (q := 61) rfl rfl ?_
            refine w_istore_n (q := 62) (L' := [some (.ref 104), some (w_i 1), some (w_i 0), some (w_i l3)]) (M' := []) rfl rfl rfl rfl rfl ?_
            refine w_iinc (q := 65) (L' := [some (.ref 104), some (w_i 1), some (w_i 0), some (w_i (l3 + 1))]) (M' := []) rfl rfl rfl rfl rfl rfl ?_
            refine w_goto (t := 6) rfl rfl ?_
            exact k
          · replace k := k.2 c23
            refine w_iconst (q := 57) rfl rfl ?_
            refine w_goto (t := 61) rfl rfl ?_
            refine w_istore_n (q := 62) (L' := [some (.ref 104), some (w_i 1), some (w_i 1), some (w_i l3)]) (M' := []) rfl rfl rfl rfl rfl ?_
            refine w_iinc (q := 65) (L' := [some (.ref 104), some (w_i 1), some (w_i 1), some (w_i (l3 + 1))]) (M' := []) rfl rfl rfl rfl rfl rfl ?_
            refine w_goto (t := 6) rfl rfl ?_
            exact k
theorem e237 {xs : Nat → Int32} {xl : Nat} {I J : w_I} {b : Bool} {Q : Option Value → w_I → w_I → Bool → Prop} {a1 a2 a3 a4 a5 a6 : Int} (t : w_T xs xl 237 0 [some (.ref 104), some (w_i a1), some (w_i a2), some (w_i a3), some (w_i a4), some (w_i a5), some (w_i a6), none] [] [] I J b Q) : w_C xs xl 237 [.ref 104, w_i a1, w_i a2, w_i a3, w_i a4, w_i a5, w_i a6] I J b Q := w_en rfl t
theorem b237_0 {xs : Nat → Int32} {xl : Nat} {I J : w_I} {b : Bool} {Q : Option Value → w_I → w_I → Bool → Prop} {a1 a2 a3 a4 a5 a6 : Int} (k : w_T xs xl 237 6 [some (.ref 104), some (w_i a1), some (w_i a2), some (w_i a3), some (w_i a4), some (w_i a5), some (w_i a6), some (w_i (I 104 36))] [] [] I J b Q) : w_T xs xl 237 0 [some (.ref 104), some (w_i a1), some (w_i a2), some (w_i a3), some (w_i a4), some (w_i a5), some (w_i a6), none] [] [] I J b Q := by
  refine w_aload_n (q := 1) rfl rfl rfl ?_
  refine w_gfi (q := 4) (k' := 36) (v := I 104 36) rfl rfl rfl rfl rfl rfl rfl ?_
  refine w_istore (q := 6) (L' := [some (.ref 104), some (w_i a1), some (w_i a2), some (w_i a3), some (w_i a4), some (w_i a5), some (w_i a6), some (w_i (I 104 36))]) (M' := []) rfl rfl rfl rfl rfl ?_
  exact k
theorem b237_6 {xs : Nat → Int32} {xl : Nat} {I J : w_I} {b : Bool} {Q : Option Value → w_I → w_I → Bool → Prop} {l1 l2 l3 l4 l5 l6 l7 : Int} (k : ((-2147483648 ≤ l7 ∧ l7 < 2147483648) ∧ ((l7 ≤ 0 → ((0 ≤ l7 ∧ l7 < 32) ∧ Q none (w_U (w_U (w_U (w_U (w_U (w_U (w_U I 126 l7 l1) 127 l7 l2) 128 l7 l3) 129 l7 l4) 130 l7 l5) 131 l7 l6) 104 36 (I 104 36 + 1)) J b)) ∧ (¬ l7 ≤ 0 → ((0 ≤ l7 - 1 ∧ l7 - 1 < 32) ∧ ((-2147483648 ≤ I 127 (l7 - 1) ∧ I 127 (l7 - 1) < 2147483648) ∧ (-2147483648 ≤ l2 ∧ l2 < 2147483648) ∧ ((l2 < I 127 (l7 - 1) → ((0 ≤ l7 ∧ l7 < 32) ∧ w_T xs xl 237 6 [some (.ref 104), some (w_i l1), some (w_i l2), some (w_i l3), some (w_i l4), some (w_i l5), some (w_i l6), some (w_i (l7 + (-1)))] [] [] (w_U (w_U (w_U (w_U (w_U (w_U I 126 l7 (I 126 (l7 - 1))) 127 l7 (I 127 (l7 - 1))) 128 l7 (I 128 (l7 - 1))) 129 l7 (I 129 (l7 - 1))) 130 l7 (I 130 (l7 - 1))) 131 l7 (I 131 (l7 - 1))) J b Q)) ∧ (¬ l2 < I 127 (l7 - 1) → ((¬ I 127 (l7 - 1) = l2 → ((0 ≤ l7 ∧ l7 < 32) ∧ Q none (w_U (w_U (w_U (w_U (w_U (w_U (w_U I 126 l7 l1) 127 l7 l2) 128 l7 l3) 129 l7 l4) 130 l7 l5) 131 l7 l6) 104 36 (I 104 36 + 1)) J b)) ∧ (I 127 (l7 - 1) = l2 → ((-2147483648 ≤ l3 ∧ l3 < 2147483648) ∧ ((l3 < 0 → ((0 ≤ l7 ∧ l7 < 32) ∧ Q none (w_U (w_U (w_U (w_U (w_U (w_U (w_U I 126 l7 l1) 127 l7 l2) 128 l7 l3) 129 l7 l4) 130 l7 l5) 131 l7 l6) 104 36 (I 104 36 + 1)) J b)) ∧ (¬ l3 < 0 → ((-2147483648 ≤ I 128 (l7 - 1) ∧ I 128 (l7 - 1) < 2147483648) ∧ ((I 128 (l7 - 1) ≤ l3 → ((0 ≤ l7 ∧ l7 < 32) ∧ Q none (w_U (w_U (w_U (w_U (w_U (w_U (w_U I 126 l7 l1) 127 l7 l2) 128 l7 l3) 129 l7 l4) 130 l7 l5) 131 l7 l6) 104 36 (I 104 36 + 1)) J b)) ∧ (¬ I 128 (l7 - 1) ≤ l3 → ((0 ≤ l7 ∧ l7 < 32) ∧ w_T xs xl 237 6 [some (.ref 104), some (w_i l1), some (w_i l2), some (w_i l3), some (w_i l4), some (w_i l5), some (w_i l6), some (w_i (l7 + (-1)))] [] [] (w_U (w_U (w_U (w_U (w_U (w_U I 126 l7 (I 126 (l7 - 1))) 127 l7 (I 127 (l7 - 1))) 128 l7 (I 128 (l7 - 1))) 129 l7 (I 129 (l7 - 1))) 130 l7 (I 130 (l7 - 1))) 131 l7 (I 131 (l7 - 1))) J b Q))))))))))))))))) : w_T xs xl 237 6 [some (.ref 104), some (w_i l1), some (w_i l2), some (w_i l3), some (w_i l4), some (w_i l5), some (w_i l6), some (w_i l7)] [] [] I J b Q := by
  refine w_iload (q := 8) rfl rfl rfl ?_
  obtain ⟨h1, k⟩ := k
  refine w_zle (t := 156) (q := 11) rfl rfl rfl h1 (fun c2 => ?_) (fun c2 => ?_)
  · replace k := k.1 c2
    refine w_aload_n (q := 157) rfl rfl rfl ?_
    refine w_gfr (q := 160) rfl rfl rfl rfl (j := 126) rfl ?_
    refine w_iload (q := 162) rfl rfl rfl ?_
    refine w_iload_n (q := 163) rfl rfl rfl ?_
    obtain ⟨h3, k⟩ := k
    refine w_iast (q := 164) (n := 32) rfl rfl rfl rfl rfl h3 ?_
    refine w_aload_n (q := 165) rfl rfl rfl ?_
    refine w_gfr (q := 168) rfl rfl rfl rfl (j := 127) rfl ?_
    refine w_iload (q := 170) rfl rfl rfl ?_
    refine w_iload_n (q := 171) rfl rfl rfl ?_
    refine w_iast (q := 172) (n := 32) rfl rfl rfl rfl rfl h3 ?_
    refine w_aload_n (q := 173) rfl rfl rfl ?_
    refine w_gfr (q := 176) rfl rfl rfl rfl (j := 128) rfl ?_
    refine w_iload (q := 178) rfl rfl rfl ?_
    refine w_iload_n (q := 179) rfl rfl rfl ?_
    refine w_iast (q := 180) (n := 32) rfl rfl rfl rfl rfl h3 ?_
    refine w_aload_n (q := 181) rfl rfl rfl ?_
    refine w_gfr (q := 184) rfl rfl rfl rfl (j := 129) rfl ?_
    refine w_iload (q := 186) rfl rfl rfl ?_
    refine w_iload (q := 188) rfl rfl rfl ?_
    refine w_iast (q := 189) (n := 32) rfl rfl rfl rfl rfl h3 ?_
    refine w_aload_n (q := 190) rfl rfl rfl ?_
    refine w_gfr (q := 193) rfl rfl rfl rfl (j := 130) rfl ?_
    refine w_iload (q := 195) rfl rfl rfl ?_
    refine w_iload (q := 197) rfl rfl rfl ?_
    refine w_iast (q := 198) (n := 32) rfl rfl rfl rfl rfl h3 ?_
    refine w_aload_n (q := 199) rfl rfl rfl ?_
    refine w_gfr (q := 202) rfl rfl rfl rfl (j := 131) rfl ?_
    refine w_iload (q := 204) rfl rfl rfl ?_
    refine w_iload (q := 206) rfl rfl rfl ?_
    refine w_iast (q := 207) (n := 32) rfl rfl rfl rfl rfl h3 ?_
    refine w_aload_n (q := 208) rfl rfl rfl ?_
    refine w_dup (q := 209) rfl rfl rfl ?_
    refine w_gfi (q := 212) (k' := 36) (v := I 104 36) rfl rfl rfl rfl rfl rfl rfl ?_
    refine w_iconst (q := 213) rfl rfl ?_
    refine w_iadd (q := 214) rfl rfl ?_
    refine w_pfi (q := 217) (k' := 36) rfl rfl rfl rfl ?_
    exact w_vret rfl k
  · replace k := k.2 c2
    refine w_aload_n (q := 12) rfl rfl rfl ?_
    refine w_gfr (q := 15) rfl rfl rfl rfl (j := 127) rfl ?_
    refine w_iload (q := 17) rfl rfl rfl ?_
    refine w_iconst (q := 18) rfl rfl ?_
    refine w_isub (q := 19) rfl rfl ?_
    obtain ⟨h4, k⟩ := k
    refine w_iald (q := 20) (n := 32) (v := I 127 (l7 - 1)) rfl rfl rfl rfl rfl rfl h4 ?_
    refine w_iload_n (q := 21) rfl rfl rfl ?_
    obtain ⟨h5, h6, k⟩ := k
    refine w_cgt (t := 54) (q := 24) rfl rfl rfl h5 h6 (fun c7 => ?_) (fun c7 => ?_)
    · replace k := k.1 c7
      refine w_aload_n (q := 55) rfl rfl rfl ?_
      refine w_gfr (q := 58) rfl rfl rfl rfl (j := 126) rfl ?_
      refine w_iload (q := 60) rfl rfl rfl ?_
      refine w_aload_n (q := 61) rfl rfl rfl ?_
      refine w_gfr (q := 64) rfl rfl rfl rfl (j := 126) rfl ?_
      refine w_iload (q := 66) rfl rfl rfl ?_
      refine w_iconst (q := 67) rfl rfl ?_
      refine w_isub (q := 68) rfl rfl ?_
      refine w_iald (q := 69) (n := 32) (v := I 126 (l7 - 1)) rfl rfl rfl rfl rfl rfl h4 ?_
      obtain ⟨h8, k⟩ := k
      refine w_iast (q := 70) (n := 32) rfl rfl rfl rfl rfl h8 ?_
      refine w_aload_n (q := 71) rfl rfl rfl ?_
      refine w_gfr (q := 74) rfl rfl rfl rfl (j := 127) rfl ?_
      refine w_iload (q := 76) rfl rfl rfl ?_
      refine w_aload_n (q := 77) rfl rfl rfl ?_
      refine w_gfr (q := 80) rfl rfl rfl rfl (j := 127) rfl ?_
      refine w_iload (q := 82) rfl rfl rfl ?_
      refine w_iconst (q := 83) rfl rfl ?_
      refine w_isub (q := 84) rfl rfl ?_
      refine w_iald (q := 85) (n := 32) (v := I 127 (l7 - 1)) rfl rfl rfl rfl rfl rfl h4 ?_
      refine w_iast (q := 86) (n := 32) rfl rfl rfl rfl rfl h8 ?_
      refine w_aload_n (q := 87) rfl rfl rfl ?_
      refine w_gfr (q := 90) rfl rfl rfl rfl (j := 128) rfl ?_
      refine w_iload (q := 92) rfl rfl rfl ?_
      refine w_aload_n (q := 93) rfl rfl rfl ?_
      refine w_gfr (q := 96) rfl rfl rfl rfl (j := 128) rfl ?_
      refine w_iload (q := 98) rfl rfl rfl ?_
      refine w_iconst (q := 99) rfl rfl ?_
      refine w_isub (q := 100) rfl rfl ?_
      refine w_iald (q := 101) (n := 32) (v := I 128 (l7 - 1)) rfl rfl rfl rfl rfl rfl h4 ?_
      refine w_iast (q := 102) (n := 32) rfl rfl rfl rfl rfl h8 ?_
      refine w_aload_n (q := 103) rfl rfl rfl ?_
      refine w_gfr (q := 106) rfl rfl rfl rfl (j := 129) rfl ?_
      refine w_iload (q := 108) rfl rfl rfl ?_
      refine w_aload_n (q := 109) rfl rfl rfl ?_
      refine w_gfr (q := 112) rfl rfl rfl rfl (j := 129) rfl ?_
      refine w_iload (q := 114) rfl rfl rfl ?_
      refine w_iconst (q := 115) rfl rfl ?_
      refine w_isub (q := 116) rfl rfl ?_
      refine w_iald (q := 117) (n := 32) (v := I 129 (l7 - 1)) rfl rfl rfl rfl rfl rfl h4 ?_
      refine w_iast (q := 118) (n := 32) rfl rfl rfl rfl rfl h8 ?_
      refine w_aload_n (q := 119) rfl rfl rfl ?_
      refine w_gfr (q := 122) rfl rfl rfl rfl (j := 130) rfl ?_
      refine w_iload (q := 124) rfl rfl rfl ?_
      refine w_aload_n (q := 125) rfl rfl rfl ?_
      refine w_gfr (q := 128) rfl rfl rfl rfl (j := 130) rfl ?_
      refine w_iload (q := 130) rfl rfl rfl ?_
      refine w_iconst (q := 131) rfl rfl ?_
      refine w_isub (q := 132) rfl rfl ?_
      refine w_iald (q := 133) (n := 32) (v := I 130 (l7 - 1)) rfl rfl rfl rfl rfl rfl h4 ?_
      refine w_iast (q := 134) (n := 32) rfl rfl rfl rfl rfl h8 ?_
      refine w_aload_n (q := 135) rfl rfl rfl ?_
      refine w_gfr (q := 138) rfl rfl rfl rfl (j := 131) rfl ?_
      refine w_iload (q := 140) rfl rfl rfl ?_
      refine w_aload_n (q := 141) rfl rfl rfl ?_
      refine w_gfr (q := 144) rfl rfl rfl rfl (j := 131) rfl ?_
      refine w_iload (q := 146) rfl rfl rfl ?_
      refine w_iconst (q := 147) rfl rfl ?_
      refine w_isub (q := 148) rfl rfl ?_
      refine w_iald (q := 149) (n := 32) (v := I 131 (l7 - 1)) rfl rfl rfl rfl rfl rfl h4 ?_
      refine w_iast (q := 150) (n := 32) rfl rfl rfl rfl rfl h8 ?_
      refine w_iinc (q := 153) (L' := [some (.ref 104), some (w_i l1), some (w_i l2), some (w_i l3), some (w_i l4), some (w_i l5), some (w_i l6), some (w_i (l7 + (-1)))]) (M' := []) rfl rfl rfl rfl rfl rfl ?_
      refine w_goto (t := 6) rfl rfl ?_
      exact k
    · replace k := k.2 c7
      refine w_aload_n (q := 25) rfl rfl rfl ?_
      refine w_gfr (q := 28) rfl rfl rfl rfl (j := 127) rfl ?_
      refine w_iload (q := 30) rfl rfl rfl ?_
      refine w_iconst (q := 31) rfl rfl ?_
      refine w_isub (q := 32) rfl rfl ?_
      refine w_iald (q := 33) (n := 32) (v := I 127 (l7 - 1)) rfl rfl rfl rfl rfl rfl h4 ?_
      refine w_iload_n (q := 34) rfl rfl rfl ?_
      refine w_cne (t := 156) (q := 37) rfl rfl rfl h5 h6 (fun c9 => ?_) (fun c9 => ?_)
      · replace k := k.1 c9
        refine w_aload_n (q := 157) rfl rfl rfl ?_
        refine w_gfr (q := 160) rfl rfl rfl rfl (j := 126) rfl ?_
        refine w_iload (q := 162) rfl rfl rfl ?_
        refine w_iload_n (q := 163) rfl rfl rfl ?_
        obtain ⟨h10, k⟩ := k
        refine w_iast (q := 164) (n := 32) rfl rfl rfl rfl rfl h10 ?_
        refine w_aload_n (q := 165) rfl rfl rfl ?_
        refine w_gfr (q := 168) rfl rfl rfl rfl (j := 127) rfl ?_
        refine w_iload (q := 170) rfl rfl rfl ?_
        refine w_iload_n (q := 171) rfl rfl rfl ?_
        refine w_iast (q := 172) (n := 32) rfl rfl rfl rfl rfl h10 ?_
        refine w_aload_n (q := 173) rfl rfl rfl ?_
        refine w_gfr (q := 176) rfl rfl rfl rfl (j := 128) rfl ?_
        refine w_iload (q := 178) rfl rfl rfl ?_
        refine w_iload_n (q := 179) rfl rfl rfl ?_
        refine w_iast (q := 180) (n := 32) rfl rfl rfl rfl rfl h10 ?_
        refine w_aload_n (q := 181) rfl rfl rfl ?_
        refine w_gfr (q := 184) rfl rfl rfl rfl (j := 129) rfl ?_
        refine w_iload (q := 186) rfl rfl rfl ?_
        refine w_iload (q := 188) rfl rfl rfl ?_
        refine w_iast (q := 189) (n := 32) rfl rfl rfl rfl rfl h10 ?_
        refine w_aload_n (q := 190) rfl rfl rfl ?_
        refine w_gfr (q := 193) rfl rfl rfl rfl (j := 130) rfl ?_
        refine w_iload (q := 195) rfl rfl rfl ?_
        refine w_iload (q := 197) rfl rfl rfl ?_
        refine w_iast (q := 198) (n := 32) rfl rfl rfl rfl rfl h10 ?_
        refine w_aload_n (q := 199) rfl rfl rfl ?_
        refine w_gfr (q := 202) rfl rfl rfl rfl (j := 131) rfl ?_
        refine w_iload (q := 204) rfl rfl rfl ?_
        refine w_iload (q := 206) rfl rfl rfl ?_
        refine w_iast (q := 207) (n := 32) rfl rfl rfl rfl rfl h10 ?_
        refine w_aload_n (q := 208) rfl rfl rfl ?_
        refine w_dup (q := 209) rfl rfl rfl ?_
        refine w_gfi (q := 212) (k' := 36) (v := I 104 36) rfl rfl rfl rfl rfl rfl rfl ?_
        refine w_iconst (q := 213) rfl rfl ?_
        refine w_iadd (q := 214) rfl rfl ?_
        refine w_pfi (q := 217) (k' := 36) rfl rfl rfl rfl ?_
        exact w_vret rfl k
      · replace k := k.2 c9
        refine w_iload_n (q := 38) rfl rfl rfl ?_
        obtain ⟨h11, k⟩ := k
        refine w_zlt (t := 156) (q := 41) rfl rfl rfl h11 (fun c12 => ?_) (fun c12 => ?_)
        · replace k := k.1 c12
          refine w_aload_n (q := 157) rfl rfl rfl ?_
          refine w_gfr (q := 160) rfl rfl rfl rfl (j := 126) rfl ?_
          refine w_iload (q := 162) rfl rfl rfl ?_
          refine w_iload_n (q := 163) rfl rfl rfl ?_
          obtain ⟨h13, k⟩ := k
          refine w_iast (q := 164) (n := 32) rfl rfl rfl rfl rfl h13 ?_
          refine w_aload_n (q := 165) rfl rfl rfl ?_
          refine w_gfr (q := 168) rfl rfl rfl rfl (j := 127) rfl ?_
          refine w_iload (q := 170) rfl rfl rfl ?_
          refine w_iload_n (q := 171) rfl rfl rfl ?_
          refine w_iast (q := 172) (n := 32) rfl rfl rfl rfl rfl h13 ?_
          refine w_aload_n (q := 173) rfl rfl rfl ?_
          refine w_gfr (q := 176) rfl rfl rfl rfl (j := 128) rfl ?_
          refine w_iload (q := 178) rfl rfl rfl ?_
          refine w_iload_n (q := 179) rfl rfl rfl ?_
          refine w_iast (q := 180) (n := 32) rfl rfl rfl rfl rfl h13 ?_
          refine w_aload_n (q := 181) rfl rfl rfl ?_
          refine w_gfr (q := 184) rfl rfl rfl rfl (j := 129) rfl ?_
          refine w_iload (q := 186) rfl rfl rfl ?_
          refine w_iload (q := 188) rfl rfl rfl ?_
          refine w_iast (q := 189) (n := 32) rfl rfl rfl rfl rfl h13 ?_
          refine w_aload_n (q := 190) rfl rfl rfl ?_
          refine w_gfr (q := 193) rfl rfl rfl rfl (j := 130) rfl ?_
          refine w_iload (q := 195) rfl rfl rfl ?_
          refine w_iload (q := 197) rfl rfl rfl ?_
          refine w_iast (q := 198) (n := 32) rfl rfl rfl rfl rfl h13 ?_
          refine w_aload_n (q := 199) rfl rfl rfl ?_
          refine w_gfr (q := 202) rfl rfl rfl rfl (j := 131) rfl ?_
          refine w_iload (q := 204) rfl rfl rfl ?_
          refine w_iload (q := 206) rfl rfl rfl ?_
          refine w_iast (q := 207) (n := 32) rfl rfl rfl rfl rfl h13 ?_
          refine w_aload_n (q := 208) rfl rfl rfl ?_
          refine w_dup (q := 209) rfl rfl rfl ?_
          refine w_gfi (q := 212) (k' := 36) (v := I 104 36) rfl rfl rfl rfl rfl rfl rfl ?_
          refine w_iconst (q := 213) rfl rfl ?_
          refine w_iadd (q := 214) rfl rfl ?_
          refine w_pfi (q := 217) (k' := 36) rfl rfl rfl rfl ?_
          exact w_vret rfl k
        · replace k := k.2 c12
          refine w_aload_n (q := 42) rfl rfl rfl ?_
          refine w_gfr (q := 45) rfl rfl rfl rfl (j := 128) rfl ?_
          refine w_iload (q := 47) rfl rfl rfl ?_
          refine w_iconst (q := 48) rfl rfl ?_
          refine w_isub (q := 49) rfl rfl ?_
          refine w_iald (q := 50) (n := 32) (v := I 128 (l7 - 1)) rfl rfl rfl rfl rfl rfl h4 ?_
          refine w_iload_n (q := 51) rfl rfl rfl ?_
          obtain ⟨h14, k⟩ := k
          refine w_cle (t := 156) (q := 54) rfl rfl rfl h14 h11 (fun c15 => ?_) (fun c15 => ?_)
          · replace k := k.1 c15
            refine w_aload_n (q := 157) rfl rfl rfl ?_
            refine w_gfr (q := 160) rfl rfl rfl rfl (j := 126) rfl ?_
            refine w_iload (q := 162) rfl rfl rfl ?_
            refine w_iload_n (q := 163) rfl rfl rfl ?_
            obtain ⟨h16, k⟩ := k
            refine w_iast (q := 164) (n := 32) rfl rfl rfl rfl rfl h16 ?_
            refine w_aload_n (q := 165) rfl rfl rfl ?_
            refine w_gfr (q := 168) rfl rfl rfl rfl (j := 127) rfl ?_
            refine w_iload (q := 170) rfl rfl rfl ?_
            refine w_iload_n (q := 171) rfl rfl rfl ?_
            refine w_iast (q := 172) (n := 32) rfl rfl rfl rfl rfl h16 ?_
            refine w_aload_n (q := 173) rfl rfl rfl ?_
            refine w_gfr (q := 176) rfl rfl rfl rfl (j := 128) rfl ?_
            refine w_iload (q := 178) rfl rfl rfl ?_
            refine w_iload_n (q := 179) rfl rfl rfl ?_
            refine w_iast (q := 180) (n := 32) rfl rfl rfl rfl rfl h16 ?_
            refine w_aload_n (q := 181) rfl rfl rfl ?_
            refine w_gfr (q := 184) rfl rfl rfl rfl (j := 129) rfl ?_
            refine w_iload (q := 186) rfl rfl rfl ?_
            refine w_iload (q := 188) rfl rfl rfl ?_
            refine w_iast (q := 189) (n := 32) rfl rfl rfl rfl rfl h16 ?_
            refine w_aload_n (q := 190) rfl rfl rfl ?_
            refine w_gfr (q := 193) rfl rfl rfl rfl (j := 130) rfl ?_
            refine w_iload (q := 195) rfl rfl rfl ?_
            refine w_iload (q := 197) rfl rfl rfl ?_
            refine w_iast (q := 198) (n := 32) rfl rfl rfl rfl rfl h16 ?_
            refine w_aload_n (q := 199) rfl rfl rfl ?_
            refine w_gfr (q := 202) rfl rfl rfl rfl (j := 131) rfl ?_
            refine w_iload (q := 204) rfl rfl rfl ?_
            refine w_iload (q := 206) rfl rfl rfl ?_
            refine w_iast (q := 207) (n := 32) rfl rfl rfl rfl rfl h16 ?_
            refine w_aload_n (q := 208) rfl rfl rfl ?_
            refine w_dup (q := 209) rfl rfl rfl ?_
            refine w_gfi (q := 212) (k' := 36) (v := I 104 36) rfl rfl rfl rfl rfl rfl rfl ?_
            refine w_iconst (q := 213) rfl rfl ?_
            refine w_iadd (q := 214) rfl rfl ?_
            refine w_pfi (q := 217) (k' := 36) rfl rfl rfl rfl ?_
            exact w_vret rfl k
          · replace k := k.2 c15
            refine w_aload_n (q := 55) rfl rfl rfl ?_
            refine w_gfr (q := 58) rfl rfl rfl rfl (j := 126) rfl ?_
            refine w_iload (q := 60) rfl rfl rfl ?_
            refine w_aload_n (q := 61) rfl rfl rfl ?_
            refine w_gfr (q := 64) rfl rfl rfl rfl (j := 126) rfl ?_
            refine w_iload (q := 66) rfl rfl rfl ?_
            refine w_iconst (q := 67) rfl rfl ?_
            refine w_isub (q := 68) rfl rfl ?_
            refine w_iald (q := 69) (n := 32) (v := I 126 (l7 - 1)) rfl rfl rfl rfl rfl rfl h4 ?_
            obtain ⟨h17, k⟩ := k
            refine w_iast (q := 70) (n := 32) rfl rfl rfl rfl rfl h17 ?_
            refine w_aload_n (q := 71) rfl rfl rfl ?_
            refine w_gfr (q := 74) rfl rfl rfl rfl (j := 127) rfl ?_
            refine w_iload (q := 76) rfl rfl rfl ?_
            refine w_aload_n (q := 77) rfl rfl rfl ?_
            refine w_gfr (q := 80) rfl rfl rfl rfl (j := 127) rfl ?_
            refine w_iload (q := 82) rfl rfl rfl ?_
            refine w_iconst (q := 83) rfl rfl ?_
            refine w_isub (q := 84) rfl rfl ?_
            refine w_iald (q := 85) (n := 32) (v := I 127 (l7 - 1)) rfl rfl rfl rfl rfl rfl h4 ?_
            refine w_iast (q := 86) (n := 32) rfl rfl rfl rfl rfl h17 ?_
            refine w_aload_n (q := 87) rfl rfl rfl ?_
            refine w_gfr (q := 90) rfl rfl rfl rfl (j := 128) rfl ?_
            refine w_iload (q := 92) rfl rfl rfl ?_
            refine w_aload_n (q := 93) rfl rfl rfl ?_
            refine w_gfr (q := 96) rfl rfl rfl rfl (j := 128) rfl ?_
            refine w_iload (q := 98) rfl rfl rfl ?_
            refine w_iconst (q := 99) rfl rfl ?_
            refine w_isub (q := 100) rfl rfl ?_
            refine w_iald (q := 101) (n := 32) (v := I 128 (l7 - 1)) rfl rfl rfl rfl rfl rfl h4 ?_
            refine w_iast (q := 102) (n := 32) rfl rfl rfl rfl rfl h17 ?_
            refine w_aload_n (q := 103) rfl rfl rfl ?_
            refine w_gfr (q := 106) rfl rfl rfl rfl (j := 129) rfl ?_
            refine w_iload (q := 108) rfl rfl rfl ?_
            refine w_aload_n (q := 109) rfl rfl rfl ?_
            refine w_gfr (q := 112) rfl rfl rfl rfl (j := 129) rfl ?_
            refine w_iload (q := 114) rfl rfl rfl ?_
            refine w_iconst (q := 115) rfl rfl ?_
            refine w_isub (q := 116) rfl rfl ?_
            refine w_iald (q := 117) (n := 32) (v := I 129 (l7 - 1)) rfl rfl rfl rfl rfl rfl h4 ?_
            refine w_iast (q := 118) (n := 32) rfl rfl rfl rfl rfl h17 ?_
            refine w_aload_n (q := 119) rfl rfl rfl ?_
            refine w_gfr (q := 122) rfl rfl rfl rfl (j := 130) rfl ?_
            refine w_iload (q := 124) rfl rfl rfl ?_
            refine w_aload_n (q := 125) rfl rfl rfl ?_
            refine w_gfr (q := 128) rfl rfl rfl rfl (j := 130) rfl ?_
            refine w_iload (q := 130) rfl rfl rfl ?_
            refine w_iconst (q := 131) rfl rfl ?_
            refine w_isub (q := 132) rfl rfl ?_
            refine w_iald (q := 133) (n := 32) (v := I 130 (l7 - 1)) rfl rfl rfl rfl rfl rfl h4 ?_
            refine w_iast (q := 134) (n := 32) rfl rfl rfl rfl rfl h17 ?_
            refine w_aload_n (q := 135) rfl rfl rfl ?_
            refine w_gfr (q := 138) rfl rfl rfl rfl (j := 131) rfl ?_
            refine w_iload (q := 140) rfl rfl rfl ?_
            refine w_aload_n (q := 141) rfl rfl rfl ?_
            refine w_gfr (q := 144) rfl rfl rfl rfl (j := 131) rfl ?_
            refine w_iload (q := 146) rfl rfl rfl ?_
            refine w_iconst (q := 147) rfl rfl ?_
            refine w_isub (q := 148) rfl rfl ?_
            refine w_iald (q := 149) (n := 32) (v := I 131 (l7 - 1)) rfl rfl rfl rfl rfl rfl h4 ?_
            refine w_iast (q := 150) (n := 32) rfl rfl rfl rfl rfl h17 ?_
            refine w_iinc (q := 153) (L' := [some (.ref 104), some (w_i l1), some (w_i l2), some (w_i l3), some (w_i l4), some (w_i l5), some (w_i l6), some (w_i (l7 + (-1)))]) (M' := []) rfl rfl rfl rfl rfl rfl ?_
            refine w_goto (t := 6) rfl rfl ?_
            exact k
theorem e238 {xs : Nat → Int32} {xl : Nat} {I J : w_I} {b : Bool} {Q : Option Value → w_I → w_I → Bool → Prop} {a1 a2 : Int} (t : w_T xs xl 238 0 [some (.ref 104), some (w_i a1), some (w_i a2), none] [] [] I J b Q) : w_C xs xl 238 [.ref 104, w_i a1, w_i a2] I J b Q := w_en rfl t
theorem b238_0 {xs : Nat → Int32} {xl : Nat} {I J : w_I} {b : Bool} {Q : Option Value → w_I → w_I → Bool → Prop} {a1 a2 : Int} (k : w_T xs xl 238 7 [some (.ref 104), some (w_i a1), some (w_i a2), some (w_i 0)] [] [] (w_U I 104 36 0) J b Q) : w_T xs xl 238 0 [some (.ref 104), some (w_i a1), some (w_i a2), none] [] [] I J b Q := by
  refine w_aload_n (q := 1) rfl rfl rfl ?_
  refine w_iconst (q := 2) rfl rfl ?_
  refine w_pfi (q := 5) (k' := 36) rfl rfl rfl rfl ?_
  refine w_iconst (q := 6) rfl rfl ?_
  refine w_istore_n (q := 7) (L' := [some (.ref 104), some (w_i a1), some (w_i a2), some (w_i 0)]) (M' := []) rfl rfl rfl rfl rfl ?_
  exact k
theorem b238_7 {xs : Nat → Int32} {xl : Nat} {I J : w_I} {b : Bool} {Q : Option Value → w_I → w_I → Bool → Prop} {l1 l2 l3 : Int} (k : ((-2147483648 ≤ l3 ∧ l3 < 2147483648) ∧ (-2147483648 ≤ I 110 8 ∧ I 110 8 < 2147483648) ∧ ((I 110 8 ≤ l3 → Q none I J b) ∧ (¬ I 110 8 ≤ l3 → w_C xs xl 211 [.ref 104, w_i l3] I J b (fun v Ic Jc bc => w_T xs xl 238 23 [some (.ref 104), some (w_i l1), some (w_i l2), some (w_i l3)] [] (w_pv v []) Ic Jc bc Q))))) : w_T xs xl 238 7 [some (.ref 104), some (w_i l1), some (w_i l2), some (w_i l3)] [] [] I J b Q := by
  refine w_iload_n (q := 8) rfl rfl rfl ?_
  refine w_aload_n (q := 9) rfl rfl rfl ?_
  refine w_gfr (q := 12) rfl rfl rfl rfl (j := 110) rfl ?_
  refine w_bipush (q := 14) rfl rfl rfl ?_
  refine w_iald (q := 15) (n := 2800) (v := I 110 8) rfl rfl rfl rfl rfl rfl (by decide) ?_
  obtain ⟨h1, h2, k⟩ := k
  refine w_cge (t := 81) (q := 18) rfl rfl rfl h1 h2 (fun c3 => ?_) (fun c3 => ?_)
  · replace k := k.1 c3
    exact w_vret rfl k
  · replace k := k.2 c3
    refine w_aload_n (q := 19) rfl rfl rfl ?_
    refine w_iload_n (q := 20) rfl rfl rfl ?_
    refine w_callv (q := 23) rfl rfl rfl rfl rfl rfl ?_
    exact k
theorem b238_23 {xs : Nat → Int32} {xl : Nat} {I J : w_I} {b : Bool} {Q : Option Value → w_I → w_I → Bool → Prop} {l1 l2 l3 s0 : Int} (k : ((-2147483648 ≤ s0 ∧ s0 < 2147483648) ∧ ((s0 = 0 → w_T xs xl 238 7 [some (.ref 104), some (w_i l1), some (w_i l2), some (w_i (l3 + 1))] [] [] I J b Q) ∧ (¬ s0 = 0 → w_C xs xl 213 [.ref 104, w_i l3] I J b (fun v Ic Jc bc => w_T xs xl 238 31 [some (.ref 104), some (w_i l1), some (w_i l2), some (w_i l3)] [] (w_pv v []) Ic Jc bc Q))))) : w_T xs xl 238 23 [some (.ref 104), some (w_i l1), some (w_i l2), some (w_i l3)] [] [w_i s0] I J b Q := by
  obtain ⟨h1, k⟩ := k
  refine w_zeq (t := 75) (q := 26) rfl rfl rfl h1 (fun c2 => ?_) (fun c2 => ?_)
  · replace k := k.1 c2
    refine w_iinc (q := 78) (L' := [some (.ref 104), some (w_i l1), some (w_i l2), some (w_i (l3 + 1))]) (M' := []) rfl rfl rfl rfl rfl rfl ?_
    refine w_goto (t := 7) rfl rfl ?_
    exact k
  · replace k := k.2 c2
    refine w_aload_n (q := 27) rfl rfl rfl ?_
    refine w_iload_n (q := 28) rfl rfl rfl ?_
    refine w_callv (q := 31) rfl rfl rfl rfl rfl rfl ?_
    exact k
theorem b238_31 {xs : Nat → Int32} {xl : Nat} {I J : w_I} {b : Bool} {Q : Option Value → w_I → w_I → Bool → Prop} {l1 l2 l3 s0 : Int} (k : ((-2147483648 ≤ s0 ∧ s0 < 2147483648) ∧ ((s0 < 0 → w_T xs xl 238 7 [some (.ref 104), some (w_i l1), some (w_i l2), some (w_i (l3 + 1))] [] [] I J b Q) ∧ (¬ s0 < 0 → ((-2147483648 ≤ l3 ∧ l3 < 2147483648) ∧ (-2147483648 ≤ l2 ∧ l2 < 2147483648) ∧ ((¬ l3 = l2 → w_C xs xl 217 [.ref 104, w_i l3] I J b (fun v Ic Jc bc => w_T xs xl 238 47 [some (.ref 104), some (w_i l1), some (w_i l2), some (w_i l3)] [] (w_pv v []) Ic Jc bc Q)) ∧ (l3 = l2 → w_T xs xl 238 7 [some (.ref 104), some (w_i l1), some (w_i l2), some (w_i (l3 + 1))] [] [] I J b Q))))))) : w_T xs xl 238 31 [some (.ref 104), some (w_i l1), some (w_i l2), some (w_i l3)] [] [w_i s0] I J b Q := by
  obtain ⟨h1, k⟩ := k
  refine w_zlt (t := 75) (q := 34) rfl rfl rfl h1 (fun c2 => ?_) (fun c2 => ?_)
  · replace k := k.1 c2
    refine w_iinc (q := 78) (L' := [some (.ref 104), some (w_i l1), some (w_i l2), some (w_i (l3 + 1))]) (M' := []) rfl rfl rfl rfl rfl rfl ?_
    refine w_goto (t := 7) rfl rfl ?_
    exact k
  · replace k := k.2 c2
    refine w_iload_n (q := 35) rfl rfl rfl ?_
    refine w_iload_n (q := 36) rfl rfl rfl ?_
    obtain ⟨h3, h4, k⟩ := k
    refine w_cne (t := 42) (q := 39) rfl rfl rfl h3 h4 (fun c5 => ?_) (fun c5 => ?_)
    · replace k := k.1 c5
      refine w_aload_n (q := 43) rfl rfl rfl ?_
      refine w_iload_n (q := 44) rfl rfl rfl ?_
      refine w_callv (q := 47) rfl rfl rfl rfl rfl rfl ?_
      exact k
    · replace k := k.2 c5
      refine w_goto (t := 75) rfl rfl ?_
      refine w_iinc (q := 78) (L' := [some (.ref 104), some (w_i l1), some (w_i l2), some (w_i (l3 + 1))]) (M' := []) rfl rfl rfl rfl rfl rfl ?_
      refine w_goto (t := 7) rfl rfl ?_
      exact k
theorem b238_47 {xs : Nat → Int32} {xl : Nat} {I J : w_I} {b : Bool} {Q : Option Value → w_I → w_I → Bool → Prop} {l1 l2 l3 : Int} (k : (((0 : Int) ≤ I 104 35 ∧ I 104 35 < 2147483648 ∧ (0 : Int) < l1 ∧ l1 < (2147483648 : Int)) ∧ w_C xs xl 213 [.ref 104, w_i l3] I J b (fun v Ic Jc bc => w_T xs xl 238 60 [some (.ref 104), some (w_i l1), some (w_i l2), some (w_i l3)] [] (w_pv v [w_i (I 104 35 / l1), w_i l3, .ref 104]) Ic Jc bc Q))) : w_T xs xl 238 47 [some (.ref 104), some (w_i l1), some (w_i l2), some (w_i l3)] [] [] I J b Q := by
  refine w_aload_n (q := 48) rfl rfl rfl ?_
  refine w_iload_n (q := 49) rfl rfl rfl ?_
  refine w_aload_n (q := 50) rfl rfl rfl ?_
  refine w_gfi (q := 53) (k' := 35) (v := I 104 35) rfl rfl rfl rfl rfl rfl rfl ?_
  refine w_iload_n (q := 54) rfl rfl rfl ?_
  obtain ⟨h1, k⟩ := k
  refine w_idiv (q := 55) rfl rfl h1 ?_
  refine w_aload_n (q := 56) rfl rfl rfl ?_
  refine w_iload_n (q := 57) rfl rfl rfl ?_
  refine w_callv (q := 60) rfl rfl rfl rfl rfl rfl ?_
  exact k
theorem b238_60 {xs : Nat → Int32} {xl : Nat} {I J : w_I} {b : Bool} {Q : Option Value → w_I → w_I → Bool → Prop} {l1 l2 l3 s1 s2 s3 : Int} (k : w_C xs xl 237 [.ref 104, w_i s1, w_i s2, w_i s3, w_i (I 104 35), w_i (I 104 33), w_i (I 104 34)] I J b (fun v Ic Jc bc => w_T xs xl 238 75 [some (.ref 104), some (w_i l1), some (w_i l2), some (w_i l3)] [] (w_pv v []) Ic Jc bc Q)) : w_T xs xl 238 60 [some (.ref 104), some (w_i l1), some (w_i l2), some (w_i l3)] [] [w_i s3, w_i s2, w_i s1, .ref 104] I J b Q := by
  refine w_aload_n (q := 61) rfl rfl rfl ?_
  refine w_gfi (q := 64) (k' := 35) (v := I 104 35) rfl rfl rfl rfl rfl rfl rfl ?_
  refine w_aload_n (q := 65) rfl rfl rfl ?_
  refine w_gfi (q := 68) (k' := 33) (v := I 104 33) rfl rfl rfl rfl rfl rfl rfl ?_
  refine w_aload_n (q := 69) rfl rfl rfl ?_
  refine w_gfi (q := 72) (k' := 34) (v := I 104 34) rfl rfl rfl rfl rfl rfl rfl ?_
  refine w_callv (q := 75) rfl rfl rfl rfl rfl rfl ?_
  exact k
theorem b238_75 {xs : Nat → Int32} {xl : Nat} {I J : w_I} {b : Bool} {Q : Option Value → w_I → w_I → Bool → Prop} {l1 l2 l3 : Int} (k : w_T xs xl 238 7 [some (.ref 104), some (w_i l1), some (w_i l2), some (w_i (l3 + 1))] [] [] I J b Q) : w_T xs xl 238 75 [some (.ref 104), some (w_i l1), some (w_i l2), some (w_i l3)] [] [] I J b Q := by
  refine w_iinc (q := 78) (L' := [some (.ref 104), some (w_i l1), some (w_i l2), some (w_i (l3 + 1))]) (M' := []) rfl rfl rfl rfl rfl rfl ?_
  refine w_goto (t := 7) rfl rfl ?_
  exact k
theorem e239 {xs : Nat → Int32} {xl : Nat} {I J : w_I} {b : Bool} {Q : Option Value → w_I → w_I → Bool → Prop} {a1 : Int} (t : w_T xs xl 239 0 [some (.ref 104), some (w_i a1)] [] [] I J b Q) : w_C xs xl 239 [.ref 104, w_i a1] I J b Q := w_en rfl t
theorem b239_0 {xs : Nat → Int32} {xl : Nat} {I J : w_I} {b : Bool} {Q : Option Value → w_I → w_I → Bool → Prop} {a1 : Int} (k : w_C xs xl 217 [.ref 104, w_i a1] I J b (fun v Ic Jc bc => w_T xs xl 239 5 [some (.ref 104), some (w_i a1)] [] (w_pv v []) Ic Jc bc Q)) : w_T xs xl 239 0 [some (.ref 104), some (w_i a1)] [] [] I J b Q := by
  refine w_aload_n (q := 1) rfl rfl rfl ?_
  refine w_iload_n (q := 2) rfl rfl rfl ?_
  refine w_callv (q := 5) rfl rfl rfl rfl rfl rfl ?_
  exact k
theorem b239_5 {xs : Nat → Int32} {xl : Nat} {I J : w_I} {b : Bool} {Q : Option Value → w_I → w_I → Bool → Prop} {l1 : Int} (k : (((0 : Int) ≤ I 104 35 ∧ I 104 35 < 2147483648 ∧ (0 : Int) < I 110 1 ∧ I 110 1 < (2147483648 : Int)) ∧ w_C xs xl 237 [.ref 104, w_i l1, w_i (I 104 35 / I 110 1), w_i (-1), w_i (I 104 35), w_i (I 104 33), w_i (I 104 34)] I J b (fun v Ic Jc bc => w_T xs xl 239 34 [some (.ref 104), some (w_i l1)] [] (w_pv v []) Ic Jc bc Q))) : w_T xs xl 239 5 [some (.ref 104), some (w_i l1)] [] [] I J b Q := by
  refine w_aload_n (q := 6) rfl rfl rfl ?_
  refine w_iload_n (q := 7) rfl rfl rfl ?_
  refine w_aload_n (q := 8) rfl rfl rfl ?_
  refine w_gfi (q := 11) (k' := 35) (v := I 104 35) rfl rfl rfl rfl rfl rfl rfl ?_
  refine w_aload_n (q := 12) rfl rfl rfl ?_
  refine w_gfr (q := 15) rfl rfl rfl rfl (j := 110) rfl ?_
  refine w_iconst (q := 16) rfl rfl ?_
  refine w_iald (q := 17) (n := 2800) (v := I 110 1) rfl rfl rfl rfl rfl rfl (by decide) ?_
  obtain ⟨h1, k⟩ := k
  refine w_idiv (q := 18) rfl rfl h1 ?_
  refine w_iconst (q := 19) rfl rfl ?_
  refine w_aload_n (q := 20) rfl rfl rfl ?_
  refine w_gfi (q := 23) (k' := 35) (v := I 104 35) rfl rfl rfl rfl rfl rfl rfl ?_
  refine w_aload_n (q := 24) rfl rfl rfl ?_
  refine w_gfi (q := 27) (k' := 33) (v := I 104 33) rfl rfl rfl rfl rfl rfl rfl ?_
  refine w_aload_n (q := 28) rfl rfl rfl ?_
  refine w_gfi (q := 31) (k' := 34) (v := I 104 34) rfl rfl rfl rfl rfl rfl rfl ?_
  refine w_callv (q := 34) rfl rfl rfl rfl rfl rfl ?_
  exact k
theorem b239_34 {xs : Nat → Int32} {xl : Nat} {I J : w_I} {b : Bool} {Q : Option Value → w_I → w_I → Bool → Prop} {u1 : Option Value} (k : Q none I J b) : w_T xs xl 239 34 [some (.ref 104), u1] [] [] I J b Q := by
  exact w_vret rfl k
theorem e240 {xs : Nat → Int32} {xl : Nat} {I J : w_I} {b : Bool} {Q : Option Value → w_I → w_I → Bool → Prop} {a1 : Int} (t : w_T xs xl 240 0 [some (.ref 104), some (w_i a1)] [] [] I J b Q) : w_C xs xl 240 [.ref 104, w_i a1] I J b Q := w_en rfl t
theorem b240_0 {xs : Nat → Int32} {xl : Nat} {I J : w_I} {b : Bool} {Q : Option Value → w_I → w_I → Bool → Prop} {a1 : Int} (k : w_C xs xl 238 [.ref 104, w_i (I 110 1), w_i (-1)] I J b (fun v Ic Jc bc => w_T xs xl 240 11 [some (.ref 104), some (w_i a1)] [] (w_pv v []) Ic Jc bc Q)) : w_T xs xl 240 0 [some (.ref 104), some (w_i a1)] [] [] I J b Q := by
  refine w_aload_n (q := 1) rfl rfl rfl ?_
  refine w_aload_n (q := 2) rfl rfl rfl ?_
  refine w_gfr (q := 5) rfl rfl rfl rfl (j := 110) rfl ?_
  refine w_iconst (q := 6) rfl rfl ?_
  refine w_iald (q := 7) (n := 2800) (v := I 110 1) rfl rfl rfl rfl rfl rfl (by decide) ?_
  refine w_iconst (q := 8) rfl rfl ?_
  refine w_callv (q := 11) rfl rfl rfl rfl rfl rfl ?_
  exact k
theorem b240_11 {xs : Nat → Int32} {xl : Nat} {I J : w_I} {b : Bool} {Q : Option Value → w_I → w_I → Bool → Prop} {l1 : Int} (k : ((-2147483648 ≤ l1 ∧ l1 < 2147483648) ∧ ((l1 < 0 → Q (some (w_i (-1))) I J b) ∧ (¬ l1 < 0 → ((-2147483648 ≤ I 104 36 ∧ I 104 36 < 2147483648) ∧ ((I 104 36 ≤ l1 → Q (some (w_i (-1))) I J b) ∧ (¬ I 104 36 ≤ l1 → ((0 ≤ l1 ∧ l1 < 32) ∧ Q (some (w_i (I 126 l1))) I J b)))))))) : w_T xs xl 240 11 [some (.ref 104), some (w_i l1)] [] [] I J b Q := by
  refine w_iload_n (q := 12) rfl rfl rfl ?_
  obtain ⟨h1, k⟩ := k
  refine w_zlt (t := 32) (q := 15) rfl rfl rfl h1 (fun c2 => ?_) (fun c2 => ?_)
  · replace k := k.1 c2
    refine w_iconst (q := 33) rfl rfl ?_
    exact w_iret rfl rfl k
  · replace k := k.2 c2
    refine w_iload_n (q := 16) rfl rfl rfl ?_
    refine w_aload_n (q := 17) rfl rfl rfl ?_
    refine w_gfi (q := 20) (k' := 36) (v := I 104 36) rfl rfl rfl rfl rfl rfl rfl ?_
    obtain ⟨h3, k⟩ := k
    refine w_cge (t := 32) (q := 23) rfl rfl rfl h1 h3 (fun c4 => ?_) (fun c4 => ?_)
    · replace k := k.1 c4
      refine w_iconst (q := 33) rfl rfl ?_
      exact w_iret rfl rfl k
    · replace k := k.2 c4
      refine w_aload_n (q := 24) rfl rfl rfl ?_
      refine w_gfr (q := 27) rfl rfl rfl rfl (j := 126) rfl ?_
      refine w_iload_n (q := 28) rfl rfl rfl ?_
      obtain ⟨h5, k⟩ := k
      refine w_iald (q := 29) (n := 32) (v := I 126 l1) rfl rfl rfl rfl rfl rfl h5 ?_
      refine w_goto (t := 33) rfl rfl ?_
      exact w_iret rfl rfl k
theorem e241 {xs : Nat → Int32} {xl : Nat} {I J : w_I} {b : Bool} {Q : Option Value → w_I → w_I → Bool → Prop} {a1 a2 : Int} (t : w_T xs xl 241 0 [some (.ref 104), some (w_i a1), some (w_i a2)] [] [] I J b Q) : w_C xs xl 241 [.ref 104, w_i a1, w_i a2] I J b Q := w_en rfl t
theorem b241_0 {xs : Nat → Int32} {xl : Nat} {I J : w_I} {b : Bool} {Q : Option Value → w_I → w_I → Bool → Prop} {a1 a2 : Int} (k : w_C xs xl 204 [.ref 104] I J b (fun v Ic Jc bc => w_T xs xl 241 4 [some (.ref 104), some (w_i a1), some (w_i a2)] [] (w_pv v []) Ic Jc bc Q)) : w_T xs xl 241 0 [some (.ref 104), some (w_i a1), some (w_i a2)] [] [] I J b Q := by
  refine w_aload_n (q := 1) rfl rfl rfl ?_
  refine w_callv (q := 4) rfl rfl rfl rfl rfl rfl ?_
  exact k
theorem b241_4 {xs : Nat → Int32} {xl : Nat} {I J : w_I} {b : Bool} {Q : Option Value → w_I → w_I → Bool → Prop} {l1 l2 : Int} (k : ((0 ≤ l1 ∧ l1 < 32) ∧ (((0 : Int) ≤ I 110 9 ∧ I 110 9 < 2147483648 ∧ (0 : Int) < 12 ∧ 12 < (2147483648 : Int)) ∧ ((-2147483648 ≤ I 128 l1 ∧ I 128 l1 < 2147483648) ∧ ((0 ≤ I 128 l1 → ((-2147483648 ≤ l2 ∧ l2 < 2147483648) ∧ ((l2 ≤ I 128 l1 → w_C xs xl 208 [.ref 104, w_i 0, w_i 1, w_i 9999] (w_U (w_U (w_U (w_U (w_U (w_U (w_U I 124 0 (I 129 l1)) 124 1 (I 130 l1)) 124 2 (I 131 l1)) 124 3 (I 110 9 % 12)) 124 4 (I 128 l1)) 124 5 l2) 124 6 (I 128 l1 - l2)) J b (fun v Ic Jc bc => w_T xs xl 241 133 [some (.ref 104), some (w_i l1), some (w_i l2)] [] (w_pv v []) Ic Jc bc Q)) ∧ (¬ l2 ≤ I 128 l1 → w_C xs xl 208 [.ref 104, w_i 0, w_i 1, w_i 9999] (w_U (w_U (w_U (w_U (w_U (w_U (w_U I 124 0 (I 129 l1)) 124 1 (I 130 l1)) 124 2 (I 131 l1)) 124 3 (I 110 9 % 12)) 124 4 (I 128 l1)) 124 5 l2) 124 6 (l2 - I 128 l1)) J b (fun v Ic Jc bc => w_T xs xl 241 133 [some (.ref 104), some (w_i l1), some (w_i l2)] [] (w_pv v []) Ic Jc bc Q))))) ∧ (¬ 0 ≤ I 128 l1 → w_C xs xl 208 [.ref 104, w_i 0, w_i 1, w_i 9999] (w_U (w_U (w_U (w_U (w_U (w_U (w_U I 124 0 (I 129 l1)) 124 1 (I 130 l1)) 124 2 (I 131 l1)) 124 3 (I 110 9 % 12)) 124 4 (I 128 l1)) 124 5 l2) 124 6 0) J b (fun v Ic Jc bc => w_T xs xl 241 133 [some (.ref 104), some (w_i l1), some (w_i l2)] [] (w_pv v []) Ic Jc bc Q))))))) : w_T xs xl 241 4 [some (.ref 104), some (w_i l1), some (w_i l2)] [] [] I J b Q := by
  refine w_aload_n (q := 5) rfl rfl rfl ?_
  refine w_gfr (q := 8) rfl rfl rfl rfl (j := 124) rfl ?_
  refine w_iconst (q := 9) rfl rfl ?_
  refine w_aload_n (q := 10) rfl rfl rfl ?_
  refine w_gfr (q := 13) rfl rfl rfl rfl (j := 129) rfl ?_
  refine w_iload_n (q := 14) rfl rfl rfl ?_
  obtain ⟨h1, k⟩ := k
  refine w_iald (q := 15) (n := 32) (v := I 129 l1) rfl rfl rfl rfl rfl rfl h1 ?_
  refine w_iast (q := 16) (n := 10) rfl rfl rfl rfl rfl (by decide) ?_
  refine w_aload_n (q := 17) rfl rfl rfl ?_
  refine w_gfr (q := 20) rfl rfl rfl rfl (j := 124) rfl ?_
  refine w_iconst (q := 21) rfl rfl ?_
  refine w_aload_n (q := 22) rfl rfl rfl ?_
  refine w_gfr (q := 25) rfl rfl rfl rfl (j := 130) rfl ?_
  refine w_iload_n (q := 26) rfl rfl rfl ?_
  refine w_iald (q := 27) (n := 32) (v := I 130 l1) rfl rfl rfl rfl rfl rfl h1 ?_
  refine w_iast (q := 28) (n := 10) rfl rfl rfl rfl rfl (by decide) ?_
  refine w_aload_n (q := 29) rfl rfl rfl ?_
  refine w_gfr (q := 32) rfl rfl rfl rfl (j := 124) rfl ?_
  refine w_iconst (q := 33) rfl rfl ?_
  refine w_aload_n (q := 34) rfl rfl rfl ?_
  refine w_gfr (q := 37) rfl rfl rfl rfl (j := 131) rfl ?_
  refine w_iload_n (q := 38) rfl rfl rfl ?_
  refine w_iald (q := 39) (n := 32) (v := I 131 l1) rfl rfl rfl rfl rfl rfl h1 ?_
  refine w_iast (q := 40) (n := 10) rfl rfl rfl rfl rfl (by decide) ?_
  refine w_aload_n (q := 41) rfl rfl rfl ?_
  refine w_gfr (q := 44) rfl rfl rfl rfl (j := 124) rfl ?_
  refine w_iconst (q := 45) rfl rfl ?_
  refine w_aload_n (q := 46) rfl rfl rfl ?_
  refine w_gfr (q := 49) rfl rfl rfl rfl (j := 110) rfl ?_
  refine w_bipush (q := 51) rfl rfl rfl ?_
  refine w_iald (q := 52) (n := 2800) (v := I 110 9) rfl rfl rfl rfl rfl rfl (by decide) ?_
  refine w_bipush (q := 54) rfl rfl rfl ?_
  obtain ⟨h2, k⟩ := k
  refine w_irem (q := 55) rfl rfl h2 ?_
  refine w_iast (q := 56) (n := 10) rfl rfl rfl rfl rfl (by decide) ?_
  refine w_aload_n (q := 57) rfl rfl rfl ?_
  refine w_gfr (q := 60) rfl rfl rfl rfl (j := 124) rfl ?_
  refine w_iconst (q := 61) rfl rfl ?_
  refine w_aload_n (q := 62) rfl rfl rfl ?_
  refine w_gfr (q := 65) rfl rfl rfl rfl (j := 128) rfl ?_
  refine w_iload_n (q := 66) rfl rfl rfl ?_
  refine w_iald (q := 67) (n := 32) (v := I 128 l1) rfl rfl rfl rfl rfl rfl h1 ?_
  refine w_iast (q := 68) (n := 10) rfl rfl rfl rfl rfl (by decide) ?_
  refine w_aload_n (q := 69) rfl rfl rfl ?_
  refine w_gfr (q := 72) rfl rfl rfl rfl (j := 124) rfl ?_
  refine w_iconst (q := 73) rfl rfl ?_
  refine w_iload_n (q := 74) rfl rfl rfl ?_
  refine w_iast (q := 75) (n := 10) rfl rfl rfl rfl rfl (by decide) ?_
  refine w_aload_n (q := 76) rfl rfl rfl ?_
  refine w_gfr (q := 79) rfl rfl rfl rfl (j := 124) rfl ?_
  refine w_bipush (q := 81) rfl rfl rfl ?_
  refine w_aload_n (q := 82) rfl rfl rfl ?_
  refine w_gfr (q := 85) rfl rfl rfl rfl (j := 128) rfl ?_
  refine w_iload_n (q := 86) rfl rfl rfl ?_
  refine w_iald (q := 87) (n := 32) (v := I 128 l1) rfl rfl rfl rfl rfl rfl h1 ?_
  obtain ⟨h3, k⟩ := k
  refine w_zge (t := 94) (q := 90) rfl rfl rfl h3 (fun c4 => ?_) (fun c4 => ?_)
  · replace k := k.1 c4
    refine w_iload_n (q := 95) rfl rfl rfl ?_
    refine w_aload_n (q := 96) rfl rfl rfl ?_
    refine w_gfr (q := 99) rfl rfl rfl rfl (j := 128) rfl ?_
    refine w_iload_n (q := 100) rfl rfl rfl ?_
    refine w_iald (q := 101) (n := 32) (v := I 128 l1) rfl rfl rfl rfl rfl rfl h1 ?_
    obtain ⟨h5, k⟩ := k
    refine w_cle (t := 115) (q := 104) rfl rfl rfl h5 h3 (fun c6 => ?_) (fun c6 => ?_)
    · replace k := k.1 c6
      refine w_aload_n (q := 116) rfl rfl rfl ?_
      refine w_gfr (q := 119) rfl rfl rfl rfl (j := 128) rfl ?_
      refine w_iload_n (q := 120) rfl rfl rfl ?_
      refine w_iald (q := 121) (n := 32) (v := I 128 l1) rfl rfl rfl rfl rfl rfl h1 ?_
      refine w_iload_n (q := 122) rfl rfl rfl ?_
      refine w_isub (q := 123) rfl rfl ?_
      refine w_iast (q := 124) (n := 10) rfl rfl rfl rfl rfl (by decide) ?_
      refine w_aload_n (q := 125) rfl rfl rfl ?_
      refine w_iconst (q := 126) rfl rfl ?_
      refine w_iconst (q := 127) rfl rfl ?_
      refine w_sipush (q := 130) rfl rfl rfl ?_
      refine w_callv (q := 133) rfl rfl rfl rfl rfl rfl ?_
      exact k
    · replace k := k.2 c6
      refine w_iload_n (q := 105) rfl rfl rfl ?_
      refine w_aload_n (q := 106) rfl rfl rfl ?_
      refine w_gfr (q := 109) rfl rfl rfl rfl (j := 128) rfl ?_
      refine w_iload_n (q := 110) rfl rfl rfl ?_
      refine w_iald (q := 111) (n := 32) (v := I 128 l1) rfl rfl rfl rfl rfl rfl h1 ?_
      refine w_isub (q := 112) rfl rfl ?_
      refine w_goto (t := 123) rfl rfl ?_
      refine w_iast (q := 124) (n := 10) rfl rfl rfl rfl rfl (by decide) ?_
      refine w_aload_n (q := 125) rfl rfl rfl ?_
      refine w_iconst (q := 126) rfl rfl ?_
      refine w_iconst (q := 127) rfl rfl ?_
      refine w_sipush (q := 130) rfl rfl rfl ?_
      refine w_callv (q := 133) rfl rfl rfl rfl rfl rfl ?_
      exact k
  · replace k := k.2 c4
    refine w_iconst (q := 91) rfl rfl ?_
    refine w_goto (t := 123) rfl rfl ?_
    refine w_iast (q := 124) (n := 10) rfl rfl rfl rfl rfl (by decide) ?_
    refine w_aload_n (q := 125) rfl rfl rfl ?_
    refine w_iconst (q := 126) rfl rfl ?_
    refine w_iconst (q := 127) rfl rfl ?_
    refine w_sipush (q := 130) rfl rfl rfl ?_
    refine w_callv (q := 133) rfl rfl rfl rfl rfl rfl ?_
    exact k
theorem b241_133 {xs : Nat → Int32} {xl : Nat} {I J : w_I} {b : Bool} {Q : Option Value → w_I → w_I → Bool → Prop} {u1 u2 : Option Value} {s0 : Int} (k : Q (some (w_i s0)) I J b) : w_T xs xl 241 133 [some (.ref 104), u1, u2] [] [w_i s0] I J b Q := by
  exact w_iret rfl rfl k
theorem e242 {xs : Nat → Int32} {xl : Nat} {I J : w_I} {b : Bool} {Q : Option Value → w_I → w_I → Bool → Prop} {a1 a2 a3 : Int} (t : w_T xs xl 242 0 [some (.ref 104), some (w_i a1), some (w_i a2), some (w_i a3)] [] [] I J b Q) : w_C xs xl 242 [.ref 104, w_i a1, w_i a2, w_i a3] I J b Q := w_en rfl t
theorem b242_0 {xs : Nat → Int32} {xl : Nat} {I J : w_I} {b : Bool} {Q : Option Value → w_I → w_I → Bool → Prop} {a1 a2 a3 : Int} (k : ((0 ≤ a1 ∧ a1 < 32) ∧ ((-2147483648 ≤ I 128 a1 ∧ I 128 a1 < 2147483648) ∧ (-2147483648 ≤ a2 ∧ a2 < 2147483648) ∧ ((¬ I 128 a1 = a2 → ((0 ≤ I 128 a1 → ((-2147483648 ≤ a3 ∧ a3 < 2147483648) ∧ ((a3 = 0 → Q (some (w_i (1000000 + 0))) I J b) ∧ (¬ a3 = 0 → w_C xs xl 241 [.ref 104, w_i a1, w_i a2] I J b (fun v Ic Jc bc => w_T xs xl 242 38 [some (.ref 104), some (w_i a1), some (w_i a2), some (w_i a3)] [] (w_pv v [w_i 1000000]) Ic Jc bc Q))))) ∧ (¬ 0 ≤ I 128 a1 → ((-2147483648 ≤ a3 ∧ a3 < 2147483648) ∧ ((a3 = 0 → Q (some (w_i (0 + 0))) I J b) ∧ (¬ a3 = 0 → w_C xs xl 241 [.ref 104, w_i a1, w_i a2] I J b (fun v Ic Jc bc => w_T xs xl 242 38 [some (.ref 104), some (w_i a1), some (w_i a2), some (w_i a3)] [] (w_pv v [w_i 0]) Ic Jc bc Q))))))) ∧ (I 128 a1 = a2 → Q (some (w_i 0)) I J b))))) : w_T xs xl 242 0 [some (.ref 104), some (w_i a1), some (w_i a2), some (w_i a3)] [] [] I J b Q := by
  refine w_aload_n (q := 1) rfl rfl rfl ?_
  refine w_gfr (q := 4) rfl rfl rfl rfl (j := 128) rfl ?_
  refine w_iload_n (q := 5) rfl rfl rfl ?_
  obtain ⟨h1, k⟩ := k
  refine w_iald (q := 6) (n := 32) (v := I 128 a1) rfl rfl rfl rfl rfl rfl h1 ?_
  refine w_iload_n (q := 7) rfl rfl rfl ?_
  obtain ⟨h2, h3, k⟩ := k
  refine w_cne (t := 12) (q := 10) rfl rfl rfl h2 h3 (fun c4 => ?_) (fun c4 => ?_)
  · replace k := k.1 c4
    refine w_aload_n (q := 13) rfl rfl rfl ?_
    refine w_gfr (q := 16) rfl rfl rfl rfl (j := 128) rfl ?_
    refine w_iload_n (q := 17) rfl rfl rfl ?_
    refine w_iald (q := 18) (n := 32) (v := I 128 a1) rfl rfl rfl rfl rfl rfl h1 ?_
    refine w_zge (t := 25) (q := 21) rfl rfl rfl h2 (fun c5 => ?_) (fun c5 => ?_)
    · replace k := k.1 c5
      refine w_ldc_w (q := 28) (n := 1000000) rfl rfl rfl ?_
      refine w_iload_n (q := 29) rfl rfl rfl ?_
      obtain ⟨h6, k⟩ := k
      refine w_zeq (t := 41) (q := 32) rfl rfl rfl h6 (fun c7 => ?_) (fun c7 => ?_)
      · replace k := k.1 c7
        refine w_iconst (q := 42) rfl rfl ?_
        refine w_iadd (q := 43) rfl rfl ?_
        exact w_iret rfl rfl k
      · replace k := k.2 c7
        refine w_aload_n (q := 33) rfl rfl rfl ?_
        refine w_iload_n (q := 34) rfl rfl rfl ?_
        refine w_iload_n (q := 35) rfl rfl rfl ?_
        refine w_callv (q := 38) rfl rfl rfl rfl rfl rfl ?_
        exact k
    · replace k := k.2 c5
      refine w_iconst (q := 22) rfl rfl ?_
      refine w_goto (t := 28) rfl rfl ?_
      refine w_iload_n (q := 29) rfl rfl rfl ?_
      obtain ⟨h8, k⟩ := k
      refine w_zeq (t := 41) (q := 32) rfl rfl rfl h8 (fun c9 => ?_) (fun c9 => ?_)
      · replace k := k.1 c9
        refine w_iconst (q := 42) rfl rfl ?_
        refine w_iadd (q := 43) rfl rfl ?_
        exact w_iret rfl rfl k
      · replace k := k.2 c9
        refine w_aload_n (q := 33) rfl rfl rfl ?_
        refine w_iload_n (q := 34) rfl rfl rfl ?_
        refine w_iload_n (q := 35) rfl rfl rfl ?_
        refine w_callv (q := 38) rfl rfl rfl rfl rfl rfl ?_
        exact k
  · replace k := k.2 c4
    refine w_iconst (q := 11) rfl rfl ?_
    exact w_iret rfl rfl k
theorem b242_38 {xs : Nat → Int32} {xl : Nat} {I J : w_I} {b : Bool} {Q : Option Value → w_I → w_I → Bool → Prop} {u1 u2 u3 : Option Value} {s0 s1 : Int} (k : Q (some (w_i (s0 + s1))) I J b) : w_T xs xl 242 38 [some (.ref 104), u1, u2, u3] [] [w_i s1, w_i s0] I J b Q := by
  refine w_goto (t := 42) rfl rfl ?_
  refine w_iadd (q := 43) rfl rfl ?_
  exact w_iret rfl rfl k
theorem e243 {xs : Nat → Int32} {xl : Nat} {I J : w_I} {b : Bool} {Q : Option Value → w_I → w_I → Bool → Prop} {a1 a2 : Int} (t : w_T xs xl 243 0 [some (.ref 104), some (w_i a1), some (w_i a2), none, none, none, none, none] [] [] I J b Q) : w_C xs xl 243 [.ref 104, w_i a1, w_i a2] I J b Q := w_en rfl t
theorem b243_0 {xs : Nat → Int32} {xl : Nat} {I J : w_I} {b : Bool} {Q : Option Value → w_I → w_I → Bool → Prop} {a1 a2 : Int} (k : w_T xs xl 243 7 [some (.ref 104), some (w_i a1), some (w_i a2), some (w_i 0), none, none, none, none] [] [] (w_U I 104 44 a1) J b Q) : w_T xs xl 243 0 [some (.ref 104), some (w_i a1), some (w_i a2), none, none, none, none, none] [] [] I J b Q := by
  refine w_aload_n (q := 1) rfl rfl rfl ?_
  refine w_iload_n (q := 2) rfl rfl rfl ?_
  refine w_pfi (q := 5) (k' := 44) rfl rfl rfl rfl ?_
  refine w_iconst (q := 6) rfl rfl ?_
  refine w_istore_n (q := 7) (L' := [some (.ref 104), some (w_i a1), some (w_i a2), some (w_i 0), none, none, none, none]) (M' := []) rfl rfl rfl rfl rfl ?_
  exact k
theorem b243_7 {xs : Nat → Int32} {xl : Nat} {I J : w_I} {b : Bool} {Q : Option Value → w_I → w_I → Bool → Prop} {l1 l2 l3 : Int} {u4 u5 u6 u7 : Option Value} (k : ((-2147483648 ≤ l3 ∧ l3 < 2147483648) ∧ (-2147483648 ≤ l1 ∧ l1 < 2147483648) ∧ ((l1 < l3 → w_T xs xl 243 40 [some (.ref 104), some (w_i l1), some (w_i l2), some (w_i (I 104 36 - 1)), u4, u5, u6, u7] [] [] I J b Q) ∧ (¬ l1 < l3 → ((0 ≤ 25 * I 104 36 + l3 ∧ 25 * I 104 36 + l3 < 825) ∧ w_T xs xl 243 7 [some (.ref 104), some (w_i l1), some (w_i l2), some (w_i (l3 + 1)), u4, u5, u6, u7] [] [] (w_U I 132 (25 * I 104 36 + l3) 0) J b Q))))) : w_T xs xl 243 7 [some (.ref 104), some (w_i l1), some (w_i l2), some (w_i l3), u4, u5, u6, u7] [] [] I J b Q := by
  refine w_iload_n (q := 8) rfl rfl rfl ?_
  refine w_iload_n (q := 9) rfl rfl rfl ?_
  obtain ⟨h1, h2, k⟩ := k
  refine w_cgt (t := 33) (q := 12) rfl rfl rfl h1 h2 (fun c3 => ?_) (fun c3 => ?_)
  · replace k := k.1 c3
    refine w_aload_n (q := 34) rfl rfl rfl ?_
    refine w_gfi (q := 37) (k' := 36) (v := I 104 36) rfl rfl rfl rfl rfl rfl rfl ?_
    refine w_iconst (q := 38) rfl rfl ?_
    refine w_isub (q := 39) rfl rfl ?_
    refine w_istore_n (q := 40) (L' := [some (.ref 104), some (w_i l1), some (w_i l2), some (w_i (I 104 36 - 1)), u4, u5, u6, u7]) (M' := []) rfl rfl rfl rfl rfl ?_
    exact k
  · replace k := k.2 c3
    refine w_aload_n (q := 13) rfl rfl rfl ?_
    refine w_gfr (q := 16) rfl rfl rfl rfl (j := 132) rfl ?_
    refine w_bipush (q := 18) rfl rfl rfl ?_
    refine w_aload_n (q := 19) rfl rfl rfl ?_
    refine w_gfi (q := 22) (k' := 36) (v := I 104 36) rfl rfl rfl rfl rfl rfl rfl ?_
    refine w_imul (q := 23) rfl rfl ?_
    refine w_iload_n (q := 24) rfl rfl rfl ?_
    refine w_iadd (q := 25) rfl rfl ?_
    refine w_iconst (q := 26) rfl rfl ?_
    obtain ⟨h4, k⟩ := k
    refine w_iast (q := 27) (n := 825) rfl rfl rfl rfl rfl h4 ?_
    refine w_iinc (q := 30) (L' := [some (.ref 104), some (w_i l1), some (w_i l2), some (w_i (l3 + 1)), u4, u5, u6, u7]) (M' := []) rfl rfl rfl rfl rfl rfl ?_
    refine w_goto (t := 7) rfl rfl ?_
    exact k
theorem b243_40 {xs : Nat → Int32} {xl : Nat} {I J : w_I} {b : Bool} {Q : Option Value → w_I → w_I → Bool → Prop} {l1 l2 l3 : Int} {u4 u5 u6 u7 : Option Value} (k : ((-2147483648 ≤ l3 ∧ l3 < 2147483648) ∧ ((l3 < 0 → Q (some (w_i (I 132 0))) I J b) ∧ (¬ l3 < 0 → ((0 ≤ 25 * l3 + l1 ∧ 25 * l3 + l1 < 825) ∧ w_T xs xl 243 63 [some (.ref 104), some (w_i l1), some (w_i l2), some (w_i l3), some (w_i (l1 - 1)), u5, u6, u7] [] [] (w_U I 132 (25 * l3 + l1) 100000000) J b Q))))) : w_T xs xl 243 40 [some (.ref 104), some (w_i l1), some (w_i l2), some (w_i l3), u4, u5, u6, u7] [] [] I J b Q := by
  refine w_iload_n (q := 41) rfl rfl rfl ?_
  obtain ⟨h1, k⟩ := k
  refine w_zlt (t := 168) (q := 44) rfl rfl rfl h1 (fun c2 => ?_) (fun c2 => ?_)
  · replace k := k.1 c2
    refine w_aload_n (q := 169) rfl rfl rfl ?_
    refine w_gfr (q := 172) rfl rfl rfl rfl (j := 132) rfl ?_
    refine w_iconst (q := 173) rfl rfl ?_
    refine w_iald (q := 174) (n := 825) (v := I 132 0) rfl rfl rfl rfl rfl rfl (by decide) ?_
    exact w_iret rfl rfl k
  · replace k := k.2 c2
    refine w_aload_n (q := 45) rfl rfl rfl ?_
    refine w_gfr (q := 48) rfl rfl rfl rfl (j := 132) rfl ?_
    refine w_bipush (q := 50) rfl rfl rfl ?_
    refine w_iload_n (q := 51) rfl rfl rfl ?_
    refine w_imul (q := 52) rfl rfl ?_
    refine w_iload_n (q := 53) rfl rfl rfl ?_
    refine w_iadd (q := 54) rfl rfl ?_
    refine w_ldc_w (q := 57) (n := 100000000) rfl rfl rfl ?_
    obtain ⟨h3, k⟩ := k
    refine w_iast (q := 58) (n := 825) rfl rfl rfl rfl rfl h3 ?_
    refine w_iload_n (q := 59) rfl rfl rfl ?_
    refine w_iconst (q := 60) rfl rfl ?_
    refine w_isub (q := 61) rfl rfl ?_
    refine w_istore (q := 63) (L' := [some (.ref 104), some (w_i l1), some (w_i l2), some (w_i l3), some (w_i (l1 - 1)), u5, u6, u7]) (M' := []) rfl rfl rfl rfl rfl ?_
    exact k
theorem b243_63 {xs : Nat → Int32} {xl : Nat} {I J : w_I} {b : Bool} {Q : Option Value → w_I → w_I → Bool → Prop} {l1 l2 l3 l4 : Int} {u5 u6 u7 : Option Value} (k : ((-2147483648 ≤ l4 ∧ l4 < 2147483648) ∧ ((l4 < 0 → w_T xs xl 243 40 [some (.ref 104), some (w_i l1), some (w_i l2), some (w_i (l3 + (-1))), some (w_i l4), u5, u6, u7] [] [] I J b Q) ∧ (¬ l4 < 0 → ((0 ≤ 25 * l3 + 25 + l4 + 1 ∧ 25 * l3 + 25 + l4 + 1 < 825) ∧ ((-2147483648 ≤ I 132 (25 * l3 + 25 + l4 + 1) ∧ I 132 (25 * l3 + 25 + l4 + 1) < 2147483648) ∧ ((I 132 (25 * l3 + 25 + l4 + 1) < 100000000 → w_C xs xl 242 [.ref 104, w_i l3, w_i l4, w_i l2] I J b (fun v Ic Jc bc => w_T xs xl 243 111 [some (.ref 104), some (w_i l1), some (w_i l2), some (w_i l3), some (w_i l4), some (w_i (I 132 (25 * l3 + 25 + l4 + 1))), u6, u7] [] (w_pv v [w_i (I 132 (25 * l3 + 25 + l4 + 1))]) Ic Jc bc Q)) ∧ (¬ I 132 (25 * l3 + 25 + l4 + 1) < 100000000 → ((0 ≤ 25 * l3 + l4 + 1 ∧ 25 * l3 + l4 + 1 < 825) ∧ ((-2147483648 ≤ I 132 (25 * l3 + l4 + 1) ∧ I 132 (25 * l3 + l4 + 1) < 2147483648) ∧ ((I 132 (25 * l3 + l4 + 1) ≤ 100000000 → ((0 ≤ 25 * l3 + l4 ∧ 25 * l3 + l4 < 825) ∧ w_T xs xl 243 63 [some (.ref 104), some (w_i l1), some (w_i l2), some (w_i l3), some (w_i (l4 + (-1))), some (w_i (I 132 (25 * l3 + 25 + l4 + 1))), some (w_i 100000000), some (w_i (I 132 (25 * l3 + l4 + 1)))] [] [] (w_U I 132 (25 * l3 + l4) (I 132 (25 * l3 + l4 + 1))) J b Q)) ∧ (¬ I 132 (25 * l3 + l4 + 1) ≤ 100000000 → ((0 ≤ 25 * l3 + l4 ∧ 25 * l3 + l4 < 825) ∧ w_T xs xl 243 63 [some (.ref 104), some (w_i l1), some (w_i l2), some (w_i l3), some (w_i (l4 + (-1))), some (w_i (I 132 (25 * l3 + 25 + l4 + 1))), some (w_i 100000000), some (w_i (I 132 (25 * l3 + l4 + 1)))] [] [] (w_U I 132 (25 * l3 + l4) 100000000) J b Q))))))))))))) : w_T xs xl 243 63 [some (.ref 104), some (w_i l1), some (w_i l2), some (w_i l3), some (w_i l4), u5, u6, u7] [] [] I J b Q := by
  refine w_iload (q := 65) rfl rfl rfl ?_
  obtain ⟨h1, k⟩ := k
  refine w_zlt (t := 162) (q := 68) rfl rfl rfl h1 (fun c2 => ?_) (fun c2 => ?_)
  · replace k := k.1 c2
    refine w_iinc (q := 165) (L' := [some (.ref 104), some (w_i l1), some (w_i l2), some (w_i (l3 + (-1))), some (w_i l4), u5, u6, u7]) (M' := []) rfl rfl rfl rfl rfl rfl ?_
    refine w_goto (t := 40) rfl rfl ?_
    exact k
  · replace k := k.2 c2
    refine w_aload_n (q := 69) rfl rfl rfl ?_
    refine w_gfr (q := 72) rfl rfl rfl rfl (j := 132) rfl ?_
    refine w_bipush (q := 74) rfl rfl rfl ?_
    refine w_iload_n (q := 75) rfl rfl rfl ?_
    refine w_imul (q := 76) rfl rfl ?_
    refine w_bipush (q := 78) rfl rfl rfl ?_
    refine w_iadd (q := 79) rfl rfl ?_
    refine w_iload (q := 81) rfl rfl rfl ?_
    refine w_iadd (q := 82) rfl rfl ?_
    refine w_iconst (q := 83) rfl rfl ?_
    refine w_iadd (q := 84) rfl rfl ?_
    obtain ⟨h3, k⟩ := k
    refine w_iald (q := 85) (n := 825) (v := I 132 (25 * l3 + 25 + l4 + 1)) rfl rfl rfl rfl rfl rfl h3 ?_
    refine w_istore (q := 87) (L' := [some (.ref 104), some (w_i l1), some (w_i l2), some (w_i l3), some (w_i l4), some (w_i (I 132 (25 * l3 + 25 + l4 + 1))), u6, u7]) (M' := []) rfl rfl rfl rfl rfl ?_
    refine w_iload (q := 89) rfl rfl rfl ?_
    refine w_ldc_w (q := 92) (n := 100000000) rfl rfl rfl ?_
    obtain ⟨h4, k⟩ := k
    refine w_clt (t := 101) (q := 95) rfl rfl rfl h4 (by decide) (fun c5 => ?_) (fun c5 => ?_)
    · replace k := k.1 c5
      refine w_iload (q := 103) rfl rfl rfl ?_
      refine w_aload_n (q := 104) rfl rfl rfl ?_
      refine w_iload_n (q := 105) rfl rfl rfl ?_
      refine w_iload (q := 107) rfl rfl rfl ?_
      refine w_iload_n (q := 108) rfl rfl rfl ?_
      refine w_callv (q := 111) rfl rfl rfl rfl rfl rfl ?_
      exact k
    · replace k := k.2 c5
      refine w_ldc_w (q := 98) (n := 100000000) rfl rfl rfl ?_
      refine w_goto (t := 112) rfl rfl ?_
      refine w_istore (q := 114) (L' := [some (.ref 104), some (w_i l1), some (w_i l2), some (w_i l3), some (w_i l4), some (w_i (I 132 (25 * l3 + 25 + l4 + 1))), some (w_i 100000000), u7]) (M' := []) rfl rfl rfl rfl rfl ?_
      refine w_aload_n (q := 115) rfl rfl rfl ?_
      refine w_gfr (q := 118) rfl rfl rfl rfl (j := 132) rfl ?_
      refine w_bipush (q := 120) rfl rfl rfl ?_
      refine w_iload_n (q := 121) rfl rfl rfl ?_
      refine w_imul (q := 122) rfl rfl ?_
      refine w_iload (q := 124) rfl rfl rfl ?_
      refine w_iadd (q := 125) rfl rfl ?_
      refine w_iconst (q := 126) rfl rfl ?_
      refine w_iadd (q := 127) rfl rfl ?_
      obtain ⟨h6, k⟩ := k
      refine w_iald (q := 128) (n := 825) (v := I 132 (25 * l3 + l4 + 1)) rfl rfl rfl rfl rfl rfl h6 ?_
      refine w_istore (q := 130) (L' := [some (.ref 104), some (w_i l1), some (w_i l2), some (w_i l3), some (w_i l4), some (w_i (I 132 (25 * l3 + 25 + l4 + 1))), some (w_i 100000000), some (w_i (I 132 (25 * l3 + l4 + 1)))]) (M' := []) rfl rfl rfl rfl rfl ?_
      refine w_aload_n (q := 131) rfl rfl rfl ?_
      refine w_gfr (q := 134) rfl rfl rfl rfl (j := 132) rfl ?_
      refine w_bipush (q := 136) rfl rfl rfl ?_
      refine w_iload_n (q := 137) rfl rfl rfl ?_
      refine w_imul (q := 138) rfl rfl ?_
      refine w_iload (q := 140) rfl rfl rfl ?_
      refine w_iadd (q := 141) rfl rfl ?_
      refine w_iload (q := 143) rfl rfl rfl ?_
      refine w_iload (q := 145) rfl rfl rfl ?_
      obtain ⟨h7, k⟩ := k
      refine w_cge (t := 153) (q := 148) rfl rfl rfl (by decide) h7 (fun c8 => ?_) (fun c8 => ?_)
      · replace k := k.1 c8
        refine w_iload (q := 155) rfl rfl rfl ?_
        obtain ⟨h9, k⟩ := k
        refine w_iast (q := 156) (n := 825) rfl rfl rfl rfl rfl h9 ?_
        refine w_iinc (q := 159) (L' := [some (.ref 104), some (w_i l1), some (w_i l2), some (w_i l3), some (w_i (l4 + (-1))), some (w_i (I 132 (25 * l3 + 25 + l4 + 1))), some (w_i 100000000), some (w_i (I 132 (25 * l3 + l4 + 1)))]) (M' := []) rfl rfl rfl rfl rfl rfl ?_
        refine w_goto (t := 63) rfl rfl ?_
        exact k
      · replace k := k.2 c8
        refine w_iload (q := 150) rfl rfl rfl ?_
        refine w_goto (t := 155) rfl rfl ?_
        obtain ⟨h10, k⟩ := k
        refine w_iast (q := 156) (n := 825) rfl rfl rfl rfl rfl h10 ?_
        refine w_iinc (q := 159) (L' := [some (.ref 104), some (w_i l1), some (w_i l2), some (w_i l3), some (w_i (l4 + (-1))), some (w_i (I 132 (25 * l3 + 25 + l4 + 1))), some (w_i 100000000), some (w_i (I 132 (25 * l3 + l4 + 1)))]) (M' := []) rfl rfl rfl rfl rfl rfl ?_
        refine w_goto (t := 63) rfl rfl ?_
        exact k
theorem b243_111 {xs : Nat → Int32} {xl : Nat} {I J : w_I} {b : Bool} {Q : Option Value → w_I → w_I → Bool → Prop} {l1 l2 l3 l4 s0 s1 : Int} {u5 u6 u7 : Option Value} (k : ((0 ≤ 25 * l3 + l4 + 1 ∧ 25 * l3 + l4 + 1 < 825) ∧ ((-2147483648 ≤ s0 + s1 ∧ s0 + s1 < 2147483648) ∧ (-2147483648 ≤ I 132 (25 * l3 + l4 + 1) ∧ I 132 (25 * l3 + l4 + 1) < 2147483648) ∧ ((I 132 (25 * l3 + l4 + 1) ≤ s0 + s1 → ((0 ≤ 25 * l3 + l4 ∧ 25 * l3 + l4 < 825) ∧ w_T xs xl 243 63 [some (.ref 104), some (w_i l1), some (w_i l2), some (w_i l3), some (w_i (l4 + (-1))), u5, some (w_i (s0 + s1)), some (w_i (I 132 (25 * l3 + l4 + 1)))] [] [] (w_U I 132 (25 * l3 + l4) (I 132 (25 * l3 + l4 + 1))) J b Q)) ∧ (¬ I 132 (25 * l3 + l4 + 1) ≤ s0 + s1 → ((0 ≤ 25 * l3 + l4 ∧ 25 * l3 + l4 < 825) ∧ w_T xs xl 243 63 [some (.ref 104), some (w_i l1), some (w_i l2), some (w_i l3), some (w_i (l4 + (-1))), u5, some (w_i (s0 + s1)), some (w_i (I 132 (25 * l3 + l4 + 1)))] [] [] (w_U I 132 (25 * l3 + l4) (s0 + s1)) J b Q)))))) : w_T xs xl 243 111 [some (.ref 104), some (w_i l1), some (w_i l2), some (w_i l3), some (w_i l4), u5, u6, u7] [] [w_i s1, w_i s0] I J b Q := by
  refine w_iadd (q := 112) rfl rfl ?_
  refine w_istore (q := 114) (L' := [some (.ref 104), some (w_i l1), some (w_i l2), some (w_i l3), some (w_i l4), u5, some (w_i (s0 + s1)), u7]) (M' := []) rfl rfl rfl rfl rfl ?_
  refine w_aload_n (q := 115) rfl rfl rfl ?_
  refine w_gfr (q := 118) rfl rfl rfl rfl (j := 132) rfl ?_
  refine w_bipush (q := 120) rfl rfl rfl ?_
  refine w_iload_n (q := 121) rfl rfl rfl ?_
  refine w_imul (q := 122) rfl rfl ?_
  refine w_iload (q := 124) rfl rfl rfl ?_
  refine w_iadd (q := 125) rfl rfl ?_
  refine w_iconst (q := 126) rfl rfl ?_
  refine w_iadd (q := 127) rfl rfl ?_
  obtain ⟨h1, k⟩ := k
  refine w_iald (q := 128) (n := 825) (v := I 132 (25 * l3 + l4 + 1)) rfl rfl rfl rfl rfl rfl h1 ?_
  refine w_istore (q := 130) (L' := [some (.ref 104), some (w_i l1), some (w_i l2), some (w_i l3), some (w_i l4), u5, some (w_i (s0 + s1)), some (w_i (I 132 (25 * l3 + l4 + 1)))]) (M' := []) rfl rfl rfl rfl rfl ?_
  refine w_aload_n (q := 131) rfl rfl rfl ?_
  refine w_gfr (q := 134) rfl rfl rfl rfl (j := 132) rfl ?_
  refine w_bipush (q := 136) rfl rfl rfl ?_
  refine w_iload_n (q := 137) rfl rfl rfl ?_
  refine w_imul (q := 138) rfl rfl ?_
  refine w_iload (q := 140) rfl rfl rfl ?_
  refine w_iadd (q := 141) rfl rfl ?_
  refine w_iload (q := 143) rfl rfl rfl ?_
  refine w_iload (q := 145) rfl rfl rfl ?_
  obtain ⟨h2, h3, k⟩ := k
  refine w_cge (t := 153) (q := 148) rfl rfl rfl h2 h3 (fun c4 => ?_) (fun c4 => ?_)
  · replace k := k.1 c4
    refine w_iload (q := 155) rfl rfl rfl ?_
    obtain ⟨h5, k⟩ := k
    refine w_iast (q := 156) (n := 825) rfl rfl rfl rfl rfl h5 ?_
    refine w_iinc (q := 159) (L' := [some (.ref 104), some (w_i l1), some (w_i l2), some (w_i l3), some (w_i (l4 + (-1))), u5, some (w_i (s0 + s1)), some (w_i (I 132 (25 * l3 + l4 + 1)))]) (M' := []) rfl rfl rfl rfl rfl rfl ?_
    refine w_goto (t := 63) rfl rfl ?_
    exact k
  · replace k := k.2 c4
    refine w_iload (q := 150) rfl rfl rfl ?_
    refine w_goto (t := 155) rfl rfl ?_
    obtain ⟨h6, k⟩ := k
    refine w_iast (q := 156) (n := 825) rfl rfl rfl rfl rfl h6 ?_
    refine w_iinc (q := 159) (L' := [some (.ref 104), some (w_i l1), some (w_i l2), some (w_i l3), some (w_i (l4 + (-1))), u5, some (w_i (s0 + s1)), some (w_i (I 132 (25 * l3 + l4 + 1)))]) (M' := []) rfl rfl rfl rfl rfl rfl ?_
    refine w_goto (t := 63) rfl rfl ?_
    exact k
theorem e244 {xs : Nat → Int32} {xl : Nat} {I J : w_I} {b : Bool} {Q : Option Value → w_I → w_I → Bool → Prop} (t : w_T xs xl 244 0 [some (.ref 104), none, none] [] [] I J b Q) : w_C xs xl 244 [.ref 104] I J b Q := w_en rfl t
theorem b244_0 {xs : Nat → Int32} {xl : Nat} {I J : w_I} {b : Bool} {Q : Option Value → w_I → w_I → Bool → Prop} (k : w_T xs xl 244 4 [some (.ref 104), some (w_i 0), some (w_i 0)] [] [] I J b Q) : w_T xs xl 244 0 [some (.ref 104), none, none] [] [] I J b Q := by
  refine w_iconst (q := 1) rfl rfl ?_
  refine w_istore_n (q := 2) (L' := [some (.ref 104), some (w_i 0), none]) (M' := []) rfl rfl rfl rfl rfl ?_
  refine w_iconst (q := 3) rfl rfl ?_
  refine w_istore_n (q := 4) (L' := [some (.ref 104), some (w_i 0), some (w_i 0)]) (M' := []) rfl rfl rfl rfl rfl ?_
  exact k
theorem b244_4 {xs : Nat → Int32} {xl : Nat} {I J : w_I} {b : Bool} {Q : Option Value → w_I → w_I → Bool → Prop} {l1 l2 : Int} (k : ((-2147483648 ≤ l2 ∧ l2 < 2147483648) ∧ (-2147483648 ≤ I 104 36 ∧ I 104 36 < 2147483648) ∧ ((I 104 36 ≤ l2 → Q none I J b) ∧ (¬ I 104 36 ≤ l2 → w_T xs xl 244 12 [some (.ref 104), some (w_i l1), some (w_i l2)] [] [] I J b Q)))) : w_T xs xl 244 4 [some (.ref 104), some (w_i l1), some (w_i l2)] [] [] I J b Q := by
  refine w_iload_n (q := 5) rfl rfl rfl ?_
  refine w_aload_n (q := 6) rfl rfl rfl ?_
  refine w_gfi (q := 9) (k' := 36) (v := I 104 36) rfl rfl rfl rfl rfl rfl rfl ?_
  obtain ⟨h1, h2, k⟩ := k
  refine w_cge (t := 94) (q := 12) rfl rfl rfl h1 h2 (fun c3 => ?_) (fun c3 => ?_)
  · replace k := k.1 c3
    exact w_vret rfl k
  · replace k := k.2 c3
    exact k
theorem b244_12 {xs : Nat → Int32} {xl : Nat} {I J : w_I} {b : Bool} {Q : Option Value → w_I → w_I → Bool → Prop} {l1 l2 : Int} (k : ((0 ≤ 25 * l2 + 25 + l1 + 1 ∧ 25 * l2 + 25 + l1 + 1 < 825) ∧ ((-2147483648 ≤ I 132 (25 * l2 + 25 + l1 + 1) ∧ I 132 (25 * l2 + 25 + l1 + 1) < 2147483648) ∧ ((100000000 ≤ I 132 (25 * l2 + 25 + l1 + 1) → w_T xs xl 244 12 [some (.ref 104), some (w_i (l1 + 1)), some (w_i l2)] [] [] I J b Q) ∧ (¬ 100000000 ≤ I 132 (25 * l2 + 25 + l1 + 1) → w_C xs xl 242 [.ref 104, w_i l2, w_i l1, w_i 1] I J b (fun v Ic Jc bc => w_T xs xl 244 57 [some (.ref 104), some (w_i l1), some (w_i l2)] [] (w_pv v [w_i (I 132 (25 * l2 + 25 + l1 + 1))]) Ic Jc bc Q)))))) : w_T xs xl 244 12 [some (.ref 104), some (w_i l1), some (w_i l2)] [] [] I J b Q := by
  refine w_aload_n (q := 13) rfl rfl rfl ?_
  refine w_gfr (q := 16) rfl rfl rfl rfl (j := 132) rfl ?_
  refine w_bipush (q := 18) rfl rfl rfl ?_
  refine w_iload_n (q := 19) rfl rfl rfl ?_
  refine w_imul (q := 20) rfl rfl ?_
  refine w_bipush (q := 22) rfl rfl rfl ?_
  refine w_iadd (q := 23) rfl rfl ?_
  refine w_iload_n (q := 24) rfl rfl rfl ?_
  refine w_iadd (q := 25) rfl rfl ?_
  refine w_iconst (q := 26) rfl rfl ?_
  refine w_iadd (q := 27) rfl rfl ?_
  obtain ⟨h1, k⟩ := k
  refine w_iald (q := 28) (n := 825) (v := I 132 (25 * l2 + 25 + l1 + 1)) rfl rfl rfl rfl rfl rfl h1 ?_
  refine w_ldc_w (q := 31) (n := 100000000) rfl rfl rfl ?_
  obtain ⟨h2, k⟩ := k
  refine w_cge (t := 72) (q := 34) rfl rfl rfl h2 (by decide) (fun c3 => ?_) (fun c3 => ?_)
  · replace k := k.1 c3
    refine w_iinc (q := 75) (L' := [some (.ref 104), some (w_i (l1 + 1)), some (w_i l2)]) (M' := []) rfl rfl rfl rfl rfl rfl ?_
    refine w_goto (t := 12) rfl rfl ?_
    exact k
  · replace k := k.2 c3
    refine w_aload_n (q := 35) rfl rfl rfl ?_
    refine w_gfr (q := 38) rfl rfl rfl rfl (j := 132) rfl ?_
    refine w_bipush (q := 40) rfl rfl rfl ?_
    refine w_iload_n (q := 41) rfl rfl rfl ?_
    refine w_imul (q := 42) rfl rfl ?_
    refine w_bipush (q := 44) rfl rfl rfl ?_
    refine w_iadd (q := 45) rfl rfl ?_
    refine w_iload_n (q := 46) rfl rfl rfl ?_
    refine w_iadd (q := 47) rfl rfl ?_
    refine w_iconst (q := 48) rfl rfl ?_
    refine w_iadd (q := 49) rfl rfl ?_
    refine w_iald (q := 50) (n := 825) (v := I 132 (25 * l2 + 25 + l1 + 1)) rfl rfl rfl rfl rfl rfl h1 ?_
    refine w_aload_n (q := 51) rfl rfl rfl ?_
    refine w_iload_n (q := 52) rfl rfl rfl ?_
    refine w_iload_n (q := 53) rfl rfl rfl ?_
    refine w_iconst (q := 54) rfl rfl ?_
    refine w_callv (q := 57) rfl rfl rfl rfl rfl rfl ?_
    exact k
theorem b244_57 {xs : Nat → Int32} {xl : Nat} {I J : w_I} {b : Bool} {Q : Option Value → w_I → w_I → Bool → Prop} {l1 l2 s0 s1 : Int} (k : ((0 ≤ 25 * l2 + l1 ∧ 25 * l2 + l1 < 825) ∧ ((-2147483648 ≤ s0 + s1 ∧ s0 + s1 < 2147483648) ∧ (-2147483648 ≤ I 132 (25 * l2 + l1) ∧ I 132 (25 * l2 + l1) < 2147483648) ∧ ((s0 + s1 = I 132 (25 * l2 + l1) → ((0 ≤ l2 ∧ l2 < 32) ∧ w_T xs xl 244 4 [some (.ref 104), some (w_i (l1 + 1)), some (w_i (l2 + 1))] [] [] (w_U I 133 l2 l1) J b Q)) ∧ (¬ s0 + s1 = I 132 (25 * l2 + l1) → w_T xs xl 244 12 [some (.ref 104), some (w_i (l1 + 1)), some (w_i l2)] [] [] I J b Q))))) : w_T xs xl 244 57 [some (.ref 104), some (w_i l1), some (w_i l2)] [] [w_i s1, w_i s0] I J b Q := by
  refine w_iadd (q := 58) rfl rfl ?_
  refine w_aload_n (q := 59) rfl rfl rfl ?_
  refine w_gfr (q := 62) rfl rfl rfl rfl (j := 132) rfl ?_
  refine w_bipush (q := 64) rfl rfl rfl ?_
  refine w_iload_n (q := 65) rfl rfl rfl ?_
  refine w_imul (q := 66) rfl rfl ?_
  refine w_iload_n (q := 67) rfl rfl rfl ?_
  refine w_iadd (q := 68) rfl rfl ?_
  obtain ⟨h1, k⟩ := k
  refine w_iald (q := 69) (n := 825) (v := I 132 (25 * l2 + l1)) rfl rfl rfl rfl rfl rfl h1 ?_
  obtain ⟨h2, h3, k⟩ := k
  refine w_ceq (t := 78) (q := 72) rfl rfl rfl h2 h3 (fun c4 => ?_) (fun c4 => ?_)
  · replace k := k.1 c4
    refine w_aload_n (q := 79) rfl rfl rfl ?_
    refine w_gfr (q := 82) rfl rfl rfl rfl (j := 133) rfl ?_
    refine w_iload_n (q := 83) rfl rfl rfl ?_
    refine w_iload_n (q := 84) rfl rfl rfl ?_
    obtain ⟨h5, k⟩ := k
    refine w_iast (q := 85) (n := 32) rfl rfl rfl rfl rfl h5 ?_
    refine w_iinc (q := 88) (L' := [some (.ref 104), some (w_i (l1 + 1)), some (w_i l2)]) (M' := []) rfl rfl rfl rfl rfl rfl ?_
    refine w_iinc (q := 91) (L' := [some (.ref 104), some (w_i (l1 + 1)), some (w_i (l2 + 1))]) (M' := []) rfl rfl rfl rfl rfl rfl ?_
    refine w_goto (t := 4) rfl rfl ?_
    exact k
  · replace k := k.2 c4
    refine w_iinc (q := 75) (L' := [some (.ref 104), some (w_i (l1 + 1)), some (w_i l2)]) (M' := []) rfl rfl rfl rfl rfl rfl ?_
    refine w_goto (t := 12) rfl rfl ?_
    exact k
theorem e245 {xs : Nat → Int32} {xl : Nat} {I J : w_I} {b : Bool} {Q : Option Value → w_I → w_I → Bool → Prop} {a1 : Int} (t : w_T xs xl 245 0 [some (.ref 104), some (w_i a1), none] [] [] I J b Q) : w_C xs xl 245 [.ref 104, w_i a1] I J b Q := w_en rfl t
theorem b245_0 {xs : Nat → Int32} {xl : Nat} {I J : w_I} {b : Bool} {Q : Option Value → w_I → w_I → Bool → Prop} {a1 : Int} (k : w_C xs xl 238 [.ref 104, w_i (I 110 1), w_i (-1)] I J b (fun v Ic Jc bc => w_T xs xl 245 11 [some (.ref 104), some (w_i a1), none] [] (w_pv v []) Ic Jc bc Q)) : w_T xs xl 245 0 [some (.ref 104), some (w_i a1), none] [] [] I J b Q := by
  refine w_aload_n (q := 1) rfl rfl rfl ?_
  refine w_aload_n (q := 2) rfl rfl rfl ?_
  refine w_gfr (q := 5) rfl rfl rfl rfl (j := 110) rfl ?_
  refine w_iconst (q := 6) rfl rfl ?_
  refine w_iald (q := 7) (n := 2800) (v := I 110 1) rfl rfl rfl rfl rfl rfl (by decide) ?_
  refine w_iconst (q := 8) rfl rfl ?_
  refine w_callv (q := 11) rfl rfl rfl rfl rfl rfl ?_
  exact k
theorem b245_11 {xs : Nat → Int32} {xl : Nat} {I J : w_I} {b : Bool} {Q : Option Value → w_I → w_I → Bool → Prop} {l1 : Int} {u2 : Option Value} (k : ((-2147483648 ≤ l1 ∧ l1 < 2147483648) ∧ ((l1 < 0 → w_C xs xl 236 [.ref 104] I J b (fun v Ic Jc bc => w_T xs xl 245 24 [some (.ref 104), some (w_i l1), u2] [] (w_pv v []) Ic Jc bc Q)) ∧ (¬ l1 < 0 → w_C xs xl 239 [.ref 104, w_i l1] I J b (fun v Ic Jc bc => w_T xs xl 245 20 [some (.ref 104), some (w_i l1), u2] [] (w_pv v []) Ic Jc bc Q))))) : w_T xs xl 245 11 [some (.ref 104), some (w_i l1), u2] [] [] I J b Q := by
  refine w_iload_n (q := 12) rfl rfl rfl ?_
  obtain ⟨h1, k⟩ := k
  refine w_zlt (t := 20) (q := 15) rfl rfl rfl h1 (fun c2 => ?_) (fun c2 => ?_)
  · replace k := k.1 c2
    refine w_aload_n (q := 21) rfl rfl rfl ?_
    refine w_callv (q := 24) rfl rfl rfl rfl rfl rfl ?_
    exact k
  · replace k := k.2 c2
    refine w_aload_n (q := 16) rfl rfl rfl ?_
    refine w_iload_n (q := 17) rfl rfl rfl ?_
    refine w_callv (q := 20) rfl rfl rfl rfl rfl rfl ?_
    exact k
theorem b245_24 {xs : Nat → Int32} {xl : Nat} {I J : w_I} {b : Bool} {Q : Option Value → w_I → w_I → Bool → Prop} {u1 u2 : Option Value} {s0 : Int} (k : ((-2147483648 ≤ s0 ∧ s0 < 2147483648) ∧ ((¬ s0 = 0 → Q (some (w_i 100000000)) I J b) ∧ (s0 = 0 → ((-2147483648 ≤ I 104 36 ∧ I 104 36 < 2147483648) ∧ (-2147483648 ≤ I 110 0 ∧ I 110 0 < 2147483648) ∧ ((I 104 36 ≤ I 110 0 → w_C xs xl 243 [.ref 104, w_i (I 110 0), w_i 1] I J b (fun v Ic Jc bc => w_T xs xl 245 55 [some (.ref 104), u1, u2] [] (w_pv v []) Ic Jc bc Q)) ∧ (¬ I 104 36 ≤ I 110 0 → Q (some (w_i 100000000)) I J b))))))) : w_T xs xl 245 24 [some (.ref 104), u1, u2] [] [w_i s0] I J b Q := by
  obtain ⟨h1, k⟩ := k
  refine w_zne (t := 40) (q := 27) rfl rfl rfl h1 (fun c2 => ?_) (fun c2 => ?_)
  · replace k := k.1 c2
    refine w_ldc_w (q := 43) (n := 100000000) rfl rfl rfl ?_
    exact w_iret rfl rfl k
  · replace k := k.2 c2
    refine w_aload_n (q := 28) rfl rfl rfl ?_
    refine w_gfi (q := 31) (k' := 36) (v := I 104 36) rfl rfl rfl rfl rfl rfl rfl ?_
    refine w_aload_n (q := 32) rfl rfl rfl ?_
    refine w_gfr (q := 35) rfl rfl rfl rfl (j := 110) rfl ?_
    refine w_iconst (q := 36) rfl rfl ?_
    refine w_iald (q := 37) (n := 2800) (v := I 110 0) rfl rfl rfl rfl rfl rfl (by decide) ?_
    obtain ⟨h3, h4, k⟩ := k
    refine w_cle (t := 44) (q := 40) rfl rfl rfl h3 h4 (fun c5 => ?_) (fun c5 => ?_)
    · replace k := k.1 c5
      refine w_aload_n (q := 45) rfl rfl rfl ?_
      refine w_aload_n (q := 46) rfl rfl rfl ?_
      refine w_gfr (q := 49) rfl rfl rfl rfl (j := 110) rfl ?_
      refine w_iconst (q := 50) rfl rfl ?_
      refine w_iald (q := 51) (n := 2800) (v := I 110 0) rfl rfl rfl rfl rfl rfl (by decide) ?_
      refine w_iconst (q := 52) rfl rfl ?_
      refine w_callv (q := 55) rfl rfl rfl rfl rfl rfl ?_
      exact k
    · replace k := k.2 c5
      refine w_ldc_w (q := 43) (n := 100000000) rfl rfl rfl ?_
      exact w_iret rfl rfl k
theorem b245_20 {xs : Nat → Int32} {xl : Nat} {I J : w_I} {b : Bool} {Q : Option Value → w_I → w_I → Bool → Prop} {u1 u2 : Option Value} (k : w_C xs xl 236 [.ref 104] I J b (fun v Ic Jc bc => w_T xs xl 245 24 [some (.ref 104), u1, u2] [] (w_pv v []) Ic Jc bc Q)) : w_T xs xl 245 20 [some (.ref 104), u1, u2] [] [] I J b Q := by
  refine w_aload_n (q := 21) rfl rfl rfl ?_
  refine w_callv (q := 24) rfl rfl rfl rfl rfl rfl ?_
  exact k
theorem b245_55 {xs : Nat → Int32} {xl : Nat} {I J : w_I} {b : Bool} {Q : Option Value → w_I → w_I → Bool → Prop} {u1 u2 : Option Value} {s0 : Int} (k : w_C xs xl 244 [.ref 104] I J b (fun v Ic Jc bc => w_T xs xl 245 60 [some (.ref 104), u1, some (w_i s0)] [] (w_pv v []) Ic Jc bc Q)) : w_T xs xl 245 55 [some (.ref 104), u1, u2] [] [w_i s0] I J b Q := by
  refine w_istore_n (q := 56) (L' := [some (.ref 104), u1, some (w_i s0)]) (M' := []) rfl rfl rfl rfl rfl ?_
  refine w_aload_n (q := 57) rfl rfl rfl ?_
  refine w_callv (q := 60) rfl rfl rfl rfl rfl rfl ?_
  exact k
theorem b245_60 {xs : Nat → Int32} {xl : Nat} {I J : w_I} {b : Bool} {Q : Option Value → w_I → w_I → Bool → Prop} {u1 : Option Value} {l2 : Int} (k : Q (some (w_i l2)) I J b) : w_T xs xl 245 60 [some (.ref 104), u1, some (w_i l2)] [] [] I J b Q := by
  refine w_iload_n (q := 61) rfl rfl rfl ?_
  exact w_iret rfl rfl k
theorem e246 {xs : Nat → Int32} {xl : Nat} {I J : w_I} {b : Bool} {Q : Option Value → w_I → w_I → Bool → Prop} {a1 : Int} (t : w_T xs xl 246 0 [some (.ref 104), some (w_i a1)] [] [] I J b Q) : w_C xs xl 246 [.ref 104, w_i a1] I J b Q := w_en rfl t
theorem b246_0 {xs : Nat → Int32} {xl : Nat} {I J : w_I} {b : Bool} {Q : Option Value → w_I → w_I → Bool → Prop} {a1 : Int} (k : ((-2147483648 ≤ a1 ∧ a1 < 2147483648) ∧ ((a1 = (-1) → Q (some (w_i 1)) I J b) ∧ (¬ a1 = (-1) → w_C xs xl 211 [.ref 104, w_i a1] I J b (fun v Ic Jc bc => w_T xs xl 246 10 [some (.ref 104), some (w_i a1)] [] (w_pv v []) Ic Jc bc Q))))) : w_T xs xl 246 0 [some (.ref 104), some (w_i a1)] [] [] I J b Q := by
  refine w_iload_n (q := 1) rfl rfl rfl ?_
  refine w_iconst (q := 2) rfl rfl ?_
  obtain ⟨h1, k⟩ := k
  refine w_ceq (t := 21) (q := 5) rfl rfl rfl h1 (by decide) (fun c2 => ?_) (fun c2 => ?_)
  · replace k := k.1 c2
    refine w_iconst (q := 22) rfl rfl ?_
    refine w_goto (t := 26) rfl rfl ?_
    refine w_iret rfl rfl k
  · replace k := k.2 c2
    refine w_aload_n (q := 6) rfl rfl rfl ?_
    refine w_iload_n (q := 7) rfl rfl rfl ?_
    refine w_callv (q := 10) rfl rfl rfl rfl rfl rfl ?_
    exact k
theorem b246_10 {xs : Nat → Int32} {xl : Nat} {I J : w_I} {b : Bool} {Q : Option Value → w_I → w_I → Bool → Prop} {l1 s0 : Int} (k : ((-2147483648 ≤ s0 ∧ s0 < 2147483648) ∧ ((s0 = 0 → Q (some (w_i 0)) I J b) ∧ (¬ s0 = 0 → w_C xs xl 213 [.ref 104, w_i l1] I J b (fun v Ic Jc bc => w_T xs xl 246 18 [some (.ref 104), some (w_i l1)] [] (w_pv v []) Ic Jc bc Q))))) : w_T xs xl 246 10 [some (.ref 104), some (w_i l1)] [] [w_i s0] I J b Q := by
  obtain ⟨h1, k⟩ := k
  refine w_zeq (t := 25) (q := 13) rfl rfl rfl h1 (fun c2 => ?_) (fun c2 => ?_)
  · replace k := k.1 c2
    refine w_iconst (q := 26) rfl rfl ?_
    refine w_iret rfl rfl k
  · replace k := k.2 c2
    refine w_aload_n (q := 14) rfl rfl rfl ?_
    refine w_iload_n (q := 15) rfl rfl rfl ?_
    refine w_callv (q := 18) rfl rfl rfl rfl rfl rfl ?_
    exact k
theorem b246_18 {xs : Nat → Int32} {xl : Nat} {I J : w_I} {b : Bool} {Q : Option Value → w_I → w_I → Bool → Prop} {u1 : Option Value} {s0 : Int} (k : ((-2147483648 ≤ s0 ∧ s0 < 2147483648) ∧ ((0 ≤ s0 → Q (some (w_i 0)) I J b) ∧ (¬ 0 ≤ s0 → Q (some (w_i 1)) I J b)))) : w_T xs xl 246 18 [some (.ref 104), u1] [] [w_i s0] I J b Q := by
  obtain ⟨h1, k⟩ := k
  refine w_zge (t := 25) (q := 21) rfl rfl rfl h1 (fun c2 => ?_) (fun c2 => ?_)
  · replace k := k.1 c2
    refine w_iconst (q := 26) rfl rfl ?_
    refine w_iret rfl rfl k
  · replace k := k.2 c2
    refine w_iconst (q := 22) rfl rfl ?_
    refine w_goto (t := 26) rfl rfl ?_
    refine w_iret rfl rfl k
theorem e247 {xs : Nat → Int32} {xl : Nat} {I J : w_I} {b : Bool} {Q : Option Value → w_I → w_I → Bool → Prop} {a1 a2 : Int} (t : w_T xs xl 247 0 [some (.ref 104), some (w_i a1), some (w_i a2), none, none] [] [] I J b Q) : w_C xs xl 247 [.ref 104, w_i a1, w_i a2] I J b Q := w_en rfl t
theorem b247_0 {xs : Nat → Int32} {xl : Nat} {I J : w_I} {b : Bool} {Q : Option Value → w_I → w_I → Bool → Prop} {a1 a2 : Int} (k : w_C xs xl 246 [.ref 104, w_i a1] I J b (fun v Ic Jc bc => w_T xs xl 247 5 [some (.ref 104), some (w_i a1), some (w_i a2), none, none] [] (w_pv v []) Ic Jc bc Q)) : w_T xs xl 247 0 [some (.ref 104), some (w_i a1), some (w_i a2), none, none] [] [] I J b Q := by
  refine w_aload_n (q := 1) rfl rfl rfl ?_
  refine w_iload_n (q := 2) rfl rfl rfl ?_
  refine w_callv (q := 5) rfl rfl rfl rfl rfl rfl ?_
  exact k
theorem b247_5 {xs : Nat → Int32} {xl : Nat} {I J : w_I} {b : Bool} {Q : Option Value → w_I → w_I → Bool → Prop} {l1 l2 s0 : Int} {u3 u4 : Option Value} (k : ((-2147483648 ≤ s0 ∧ s0 < 2147483648) ∧ ((s0 = 0 → Q (some (w_i (-1))) I J b) ∧ (¬ s0 = 0 → w_C xs xl 209 [w_i l2, w_i 0, w_i 2] I J b (fun v Ic Jc bc => w_T xs xl 247 14 [some (.ref 104), some (w_i l1), some (w_i l2), u3, u4] [] (w_pv v []) Ic Jc bc Q))))) : w_T xs xl 247 5 [some (.ref 104), some (w_i l1), some (w_i l2), u3, u4] [] [w_i s0] I J b Q := by
  obtain ⟨h1, k⟩ := k
  refine w_zeq (t := 17) (q := 8) rfl rfl rfl h1 (fun c2 => ?_) (fun c2 => ?_)
  · replace k := k.1 c2
    refine w_iconst (q := 18) rfl rfl ?_
    exact w_iret rfl rfl k
  · replace k := k.2 c2
    refine w_iload_n (q := 9) rfl rfl rfl ?_
    refine w_iconst (q := 10) rfl rfl ?_
    refine w_iconst (q := 11) rfl rfl ?_
    refine w_call (q := 14) rfl rfl rfl rfl rfl ?_
    exact k
theorem b247_14 {xs : Nat → Int32} {xl : Nat} {I J : w_I} {b : Bool} {Q : Option Value → w_I → w_I → Bool → Prop} {l1 l2 s0 : Int} {u3 u4 : Option Value} (k : ((-2147483648 ≤ s0 ∧ s0 < 2147483648) ∧ ((¬ s0 = 0 → w_C xs xl 245 [.ref 104, w_i l1] I J b (fun v Ic Jc bc => w_T xs xl 247 24 [some (.ref 104), some (w_i l1), some (w_i l2), u3, u4] [] (w_pv v []) Ic Jc bc Q)) ∧ (s0 = 0 → Q (some (w_i (-1))) I J b)))) : w_T xs xl 247 14 [some (.ref 104), some (w_i l1), some (w_i l2), u3, u4] [] [w_i s0] I J b Q := by
  obtain ⟨h1, k⟩ := k
  refine w_zne (t := 19) (q := 17) rfl rfl rfl h1 (fun c2 => ?_) (fun c2 => ?_)
  · replace k := k.1 c2
    refine w_aload_n (q := 20) rfl rfl rfl ?_
    refine w_iload_n (q := 21) rfl rfl rfl ?_
    refine w_callv (q := 24) rfl rfl rfl rfl rfl rfl ?_
    exact k
  · replace k := k.2 c2
    refine w_iconst (q := 18) rfl rfl ?_
    exact w_iret rfl rfl k
theorem b247_24 {xs : Nat → Int32} {xl : Nat} {I J : w_I} {b : Bool} {Q : Option Value → w_I → w_I → Bool → Prop} {u1 u3 u4 : Option Value} {l2 s0 : Int} (k : ((-2147483648 ≤ s0 ∧ s0 < 2147483648) ∧ ((s0 < 100000000 → (((0 : Int) ≤ s0 ∧ s0 < 2147483648 ∧ (0 : Int) < 1000000 ∧ 1000000 < (2147483648 : Int)) ∧ ((-2147483648 ≤ l2 ∧ l2 < 2147483648) ∧ ((¬ l2 = 0 → ((¬ l2 = 1 → (((0 : Int) ≤ s0 / 1000000 + I 110 2 - 1 ∧ s0 / 1000000 + I 110 2 - 1 < 2147483648 ∧ (0 : Int) < I 110 2 ∧ I 110 2 < (2147483648 : Int)) ∧ Q (some (w_i ((s0 / 1000000 + I 110 2 - 1) / I 110 2))) I J b)) ∧ (l2 = 1 → Q (some (w_i (s0 % 1000000))) I J b))) ∧ (l2 = 0 → Q (some (w_i (s0 / 1000000))) I J b))))) ∧ (¬ s0 < 100000000 → Q (some (w_i (-2))) I J b)))) : w_T xs xl 247 24 [some (.ref 104), u1, some (w_i l2), u3, u4] [] [w_i s0] I J b Q := by
  refine w_istore_n (q := 25) (L' := [some (.ref 104), u1, some (w_i l2), some (w_i s0), u4]) (M' := []) rfl rfl rfl rfl rfl ?_
  refine w_iload_n (q := 26) rfl rfl rfl ?_
  refine w_ldc_w (q := 29) (n := 100000000) rfl rfl rfl ?_
  obtain ⟨h1, k⟩ := k
  refine w_clt (t := 35) (q := 32) rfl rfl rfl h1 (by decide) (fun c2 => ?_) (fun c2 => ?_)
  · replace k := k.1 c2
    refine w_iload_n (q := 36) rfl rfl rfl ?_
    refine w_ldc_w (q := 39) (n := 1000000) rfl rfl rfl ?_
    obtain ⟨h3, k⟩ := k
    refine w_idiv (q := 40) rfl rfl h3 ?_
    refine w_istore (q := 42) (L' := [some (.ref 104), u1, some (w_i l2), some (w_i s0), some (w_i (s0 / 1000000))]) (M' := []) rfl rfl rfl rfl rfl ?_
    refine w_iload_n (q := 43) rfl rfl rfl ?_
    obtain ⟨h4, k⟩ := k
    refine w_zne (t := 51) (q := 46) rfl rfl rfl h4 (fun c5 => ?_) (fun c5 => ?_)
    · replace k := k.1 c5
      refine w_iload_n (q := 52) rfl rfl rfl ?_
      refine w_iconst (q := 53) rfl rfl ?_
      refine w_cne (t := 64) (q := 56) rfl rfl rfl h4 (by decide) (fun c6 => ?_) (fun c6 => ?_)
      · replace k := k.1 c6
        refine w_iload (q := 66) rfl rfl rfl ?_
        refine w_aload_n (q := 67) rfl rfl rfl ?_
        refine w_gfr (q := 70) rfl rfl rfl rfl (j := 110) rfl ?_
        refine w_iconst (q := 71) rfl rfl ?_
        refine w_iald (q := 72) (n := 2800) (v := I 110 2) rfl rfl rfl rfl rfl rfl (by decide) ?_
        refine w_iadd (q := 73) rfl rfl ?_
        refine w_iconst (q := 74) rfl rfl ?_
        refine w_isub (q := 75) rfl rfl ?_
        refine w_aload_n (q := 76) rfl rfl rfl ?_
        refine w_gfr (q := 79) rfl rfl rfl rfl (j := 110) rfl ?_
        refine w_iconst (q := 80) rfl rfl ?_
        refine w_iald (q := 81) (n := 2800) (v := I 110 2) rfl rfl rfl rfl rfl rfl (by decide) ?_
        obtain ⟨h7, k⟩ := k
        refine w_idiv (q := 82) rfl rfl h7 ?_
        exact w_iret rfl rfl k
      · replace k := k.2 c6
        refine w_iload_n (q := 57) rfl rfl rfl ?_
        refine w_ldc_w (q := 60) (n := 1000000) rfl rfl rfl ?_
        refine w_irem (q := 61) rfl rfl h3 ?_
        refine w_goto (t := 82) rfl rfl ?_
        exact w_iret rfl rfl k
    · replace k := k.2 c5
      refine w_iload (q := 48) rfl rfl rfl ?_
      refine w_goto (t := 82) rfl rfl ?_
      exact w_iret rfl rfl k
  · replace k := k.2 c2
    refine w_bipush (q := 34) rfl rfl rfl ?_
    exact w_iret rfl rfl k
theorem e248 {xs : Nat → Int32} {xl : Nat} {I J : w_I} {b : Bool} {Q : Option Value → w_I → w_I → Bool → Prop} {a1 a2 : Int} (t : w_T xs xl 248 0 [some (.ref 104), some (w_i a1), some (w_i a2), none] [] [] I J b Q) : w_C xs xl 248 [.ref 104, w_i a1, w_i a2] I J b Q := w_en rfl t
theorem b248_0 {xs : Nat → Int32} {xl : Nat} {I J : w_I} {b : Bool} {Q : Option Value → w_I → w_I → Bool → Prop} {a1 a2 : Int} (k : w_C xs xl 246 [.ref 104, w_i a1] I J b (fun v Ic Jc bc => w_T xs xl 248 5 [some (.ref 104), some (w_i a1), some (w_i a2), none] [] (w_pv v []) Ic Jc bc Q)) : w_T xs xl 248 0 [some (.ref 104), some (w_i a1), some (w_i a2), none] [] [] I J b Q := by
  refine w_aload_n (q := 1) rfl rfl rfl ?_
  refine w_iload_n (q := 2) rfl rfl rfl ?_
  refine w_callv (q := 5) rfl rfl rfl rfl rfl rfl ?_
  exact k
theorem b248_5 {xs : Nat → Int32} {xl : Nat} {I J : w_I} {b : Bool} {Q : Option Value → w_I → w_I → Bool → Prop} {l1 l2 s0 : Int} {u3 : Option Value} (k : ((-2147483648 ≤ s0 ∧ s0 < 2147483648) ∧ ((s0 = 0 → Q (some (w_i (-1))) I J b) ∧ (¬ s0 = 0 → w_C xs xl 211 [.ref 104, w_i l2] I J b (fun v Ic Jc bc => w_T xs xl 248 13 [some (.ref 104), some (w_i l1), some (w_i l2), u3] [] (w_pv v []) Ic Jc bc Q))))) : w_T xs xl 248 5 [some (.ref 104), some (w_i l1), some (w_i l2), u3] [] [w_i s0] I J b Q := by
  obtain ⟨h1, k⟩ := k
  refine w_zeq (t := 29) (q := 8) rfl rfl rfl h1 (fun c2 => ?_) (fun c2 => ?_)
  · replace k := k.1 c2
    refine w_iconst (q := 30) rfl rfl ?_
    exact w_iret rfl rfl k
  · replace k := k.2 c2
    refine w_aload_n (q := 9) rfl rfl rfl ?_
    refine w_iload_n (q := 10) rfl rfl rfl ?_
    refine w_callv (q := 13) rfl rfl rfl rfl rfl rfl ?_
    exact k
theorem b248_13 {xs : Nat → Int32} {xl : Nat} {I J : w_I} {b : Bool} {Q : Option Value → w_I → w_I → Bool → Prop} {l1 l2 s0 : Int} {u3 : Option Value} (k : ((-2147483648 ≤ s0 ∧ s0 < 2147483648) ∧ ((s0 = 0 → Q (some (w_i (-1))) I J b) ∧ (¬ s0 = 0 → w_C xs xl 213 [.ref 104, w_i l2] I J b (fun v Ic Jc bc => w_T xs xl 248 21 [some (.ref 104), some (w_i l1), some (w_i l2), u3] [] (w_pv v []) Ic Jc bc Q))))) : w_T xs xl 248 13 [some (.ref 104), some (w_i l1), some (w_i l2), u3] [] [w_i s0] I J b Q := by
  obtain ⟨h1, k⟩ := k
  refine w_zeq (t := 29) (q := 16) rfl rfl rfl h1 (fun c2 => ?_) (fun c2 => ?_)
  · replace k := k.1 c2
    refine w_iconst (q := 30) rfl rfl ?_
    exact w_iret rfl rfl k
  · replace k := k.2 c2
    refine w_aload_n (q := 17) rfl rfl rfl ?_
    refine w_iload_n (q := 18) rfl rfl rfl ?_
    refine w_callv (q := 21) rfl rfl rfl rfl rfl rfl ?_
    exact k
theorem b248_21 {xs : Nat → Int32} {xl : Nat} {I J : w_I} {b : Bool} {Q : Option Value → w_I → w_I → Bool → Prop} {l1 l2 s0 : Int} {u3 : Option Value} (k : ((-2147483648 ≤ s0 ∧ s0 < 2147483648) ∧ ((0 ≤ s0 → w_C xs xl 245 [.ref 104, w_i l1] I J b (fun v Ic Jc bc => w_T xs xl 248 36 [some (.ref 104), some (w_i l1), some (w_i l2), u3] [] (w_pv v []) Ic Jc bc Q)) ∧ (¬ 0 ≤ s0 → ((-2147483648 ≤ l2 ∧ l2 < 2147483648) ∧ (-2147483648 ≤ l1 ∧ l1 < 2147483648) ∧ ((l2 = l1 → w_C xs xl 245 [.ref 104, w_i l1] I J b (fun v Ic Jc bc => w_T xs xl 248 36 [some (.ref 104), some (w_i l1), some (w_i l2), u3] [] (w_pv v []) Ic Jc bc Q)) ∧ (¬ l2 = l1 → Q (some (w_i (-1))) I J b))))))) : w_T xs xl 248 21 [some (.ref 104), some (w_i l1), some (w_i l2), u3] [] [w_i s0] I J b Q := by
  obtain ⟨h1, k⟩ := k
  refine w_zge (t := 31) (q := 24) rfl rfl rfl h1 (fun c2 => ?_) (fun c2 => ?_)
  · replace k := k.1 c2
    refine w_aload_n (q := 32) rfl rfl rfl ?_
    refine w_iload_n (q := 33) rfl rfl rfl ?_
    refine w_callv (q := 36) rfl rfl rfl rfl rfl rfl ?_
    exact k
  · replace k := k.2 c2
    refine w_iload_n (q := 25) rfl rfl rfl ?_
    refine w_iload_n (q := 26) rfl rfl rfl ?_
    obtain ⟨h3, h4, k⟩ := k
    refine w_ceq (t := 31) (q := 29) rfl rfl rfl h3 h4 (fun c5 => ?_) (fun c5 => ?_)
    · replace k := k.1 c5
      refine w_aload_n (q := 32) rfl rfl rfl ?_
      refine w_iload_n (q := 33) rfl rfl rfl ?_
      refine w_callv (q := 36) rfl rfl rfl rfl rfl rfl ?_
      exact k
    · replace k := k.2 c5
      refine w_iconst (q := 30) rfl rfl ?_
      exact w_iret rfl rfl k
theorem b248_36 {xs : Nat → Int32} {xl : Nat} {I J : w_I} {b : Bool} {Q : Option Value → w_I → w_I → Bool → Prop} {u1 u3 : Option Value} {l2 s0 : Int} (k : ((-2147483648 ≤ s0 ∧ s0 < 2147483648) ∧ ((s0 < 100000000 → w_T xs xl 248 47 [some (.ref 104), u1, some (w_i l2), some (w_i 0)] [] [] I J b Q) ∧ (¬ s0 < 100000000 → Q (some (w_i (-2))) I J b)))) : w_T xs xl 248 36 [some (.ref 104), u1, some (w_i l2), u3] [] [w_i s0] I J b Q := by
  refine w_ldc_w (q := 39) (n := 100000000) rfl rfl rfl ?_
  obtain ⟨h1, k⟩ := k
  refine w_clt (t := 45) (q := 42) rfl rfl rfl h1 (by decide) (fun c2 => ?_) (fun c2 => ?_)
  · replace k := k.1 c2
    refine w_iconst (q := 46) rfl rfl ?_
    refine w_istore_n (q := 47) (L' := [some (.ref 104), u1, some (w_i l2), some (w_i 0)]) (M' := []) rfl rfl rfl rfl rfl ?_
    exact k
  · replace k := k.2 c2
    refine w_bipush (q := 44) rfl rfl rfl ?_
    exact w_iret rfl rfl k
theorem b248_47 {xs : Nat → Int32} {xl : Nat} {I J : w_I} {b : Bool} {Q : Option Value → w_I → w_I → Bool → Prop} {u1 : Option Value} {l2 l3 : Int} (k : ((-2147483648 ≤ l3 ∧ l3 < 2147483648) ∧ (-2147483648 ≤ I 104 36 ∧ I 104 36 < 2147483648) ∧ ((I 104 36 ≤ l3 → Q (some (w_i (-1))) I J b) ∧ (¬ I 104 36 ≤ l3 → ((0 ≤ l3 ∧ l3 < 32) ∧ ((-2147483648 ≤ I 126 l3 ∧ I 126 l3 < 2147483648) ∧ (-2147483648 ≤ l2 ∧ l2 < 2147483648) ∧ ((¬ I 126 l3 = l2 → w_T xs xl 248 47 [some (.ref 104), u1, some (w_i l2), some (w_i (l3 + 1))] [] [] I J b Q) ∧ (I 126 l3 = l2 → Q (some (w_i (I 133 l3))) I J b)))))))) : w_T xs xl 248 47 [some (.ref 104), u1, some (w_i l2), some (w_i l3)] [] [] I J b Q := by
  refine w_iload_n (q := 48) rfl rfl rfl ?_
  refine w_aload_n (q := 49) rfl rfl rfl ?_
  refine w_gfi (q := 52) (k' := 36) (v := I 104 36) rfl rfl rfl rfl rfl rfl rfl ?_
  obtain ⟨h1, h2, k⟩ := k
  refine w_cge (t := 78) (q := 55) rfl rfl rfl h1 h2 (fun c3 => ?_) (fun c3 => ?_)
  · replace k := k.1 c3
    refine w_iconst (q := 79) rfl rfl ?_
    exact w_iret rfl rfl k
  · replace k := k.2 c3
    refine w_aload_n (q := 56) rfl rfl rfl ?_
    refine w_gfr (q := 59) rfl rfl rfl rfl (j := 126) rfl ?_
    refine w_iload_n (q := 60) rfl rfl rfl ?_
    obtain ⟨h4, k⟩ := k
    refine w_iald (q := 61) (n := 32) (v := I 126 l3) rfl rfl rfl rfl rfl rfl h4 ?_
    refine w_iload_n (q := 62) rfl rfl rfl ?_
    obtain ⟨h5, h6, k⟩ := k
    refine w_cne (t := 72) (q := 65) rfl rfl rfl h5 h6 (fun c7 => ?_) (fun c7 => ?_)
    · replace k := k.1 c7
      refine w_iinc (q := 75) (L' := [some (.ref 104), u1, some (w_i l2), some (w_i (l3 + 1))]) (M' := []) rfl rfl rfl rfl rfl rfl ?_
      refine w_goto (t := 47) rfl rfl ?_
      exact k
    · replace k := k.2 c7
      refine w_aload_n (q := 66) rfl rfl rfl ?_
      refine w_gfr (q := 69) rfl rfl rfl rfl (j := 133) rfl ?_
      refine w_iload_n (q := 70) rfl rfl rfl ?_
      refine w_iald (q := 71) (n := 32) (v := I 133 l3) rfl rfl rfl rfl rfl rfl h4 ?_
      exact w_iret rfl rfl k
theorem e249 {xs : Nat → Int32} {xl : Nat} {I J : w_I} {b : Bool} {Q : Option Value → w_I → w_I → Bool → Prop} (t : w_T xs xl 249 0 [some (.ref 104), none] [] [] I J b Q) : w_C xs xl 249 [.ref 104] I J b Q := w_en rfl t
theorem b249_0 {xs : Nat → Int32} {xl : Nat} {I J : w_I} {b : Bool} {Q : Option Value → w_I → w_I → Bool → Prop} (k : w_T xs xl 249 2 [some (.ref 104), some (w_i 0)] [] [] I J b Q) : w_T xs xl 249 0 [some (.ref 104), none] [] [] I J b Q := by
  refine w_iconst (q := 1) rfl rfl ?_
  refine w_istore_n (q := 2) (L' := [some (.ref 104), some (w_i 0)]) (M' := []) rfl rfl rfl rfl rfl ?_
  exact k
theorem b249_2 {xs : Nat → Int32} {xl : Nat} {I J : w_I} {b : Bool} {Q : Option Value → w_I → w_I → Bool → Prop} {l1 : Int} (k : ((-2147483648 ≤ l1 ∧ l1 < 2147483648) ∧ (-2147483648 ≤ I 104 36 ∧ I 104 36 < 2147483648) ∧ ((I 104 36 ≤ l1 → Q none I J b) ∧ (¬ I 104 36 ≤ l1 → ((0 ≤ l1 ∧ l1 < 32) ∧ ((0 ≤ 460 + 3 * I 126 l1 + 1 ∧ 460 + 3 * I 126 l1 + 1 < 2800) ∧ w_T xs xl 249 2 [some (.ref 104), some (w_i (l1 + 1))] [] [] (w_U I 110 (460 + 3 * I 126 l1 + 1) (I 133 l1)) J b Q)))))) : w_T xs xl 249 2 [some (.ref 104), some (w_i l1)] [] [] I J b Q := by
  refine w_iload_n (q := 3) rfl rfl rfl ?_
  refine w_aload_n (q := 4) rfl rfl rfl ?_
  refine w_gfi (q := 7) (k' := 36) (v := I 104 36) rfl rfl rfl rfl rfl rfl rfl ?_
  obtain ⟨h1, h2, k⟩ := k
  refine w_cge (t := 41) (q := 10) rfl rfl rfl h1 h2 (fun c3 => ?_) (fun c3 => ?_)
  · replace k := k.1 c3
    exact w_vret rfl k
  · replace k := k.2 c3
    refine w_aload_n (q := 11) rfl rfl rfl ?_
    refine w_gfr (q := 14) rfl rfl rfl rfl (j := 110) rfl ?_
    refine w_sipush (q := 17) rfl rfl rfl ?_
    refine w_iconst (q := 18) rfl rfl ?_
    refine w_aload_n (q := 19) rfl rfl rfl ?_
    refine w_gfr (q := 22) rfl rfl rfl rfl (j := 126) rfl ?_
    refine w_iload_n (q := 23) rfl rfl rfl ?_
    obtain ⟨h4, k⟩ := k
    refine w_iald (q := 24) (n := 32) (v := I 126 l1) rfl rfl rfl rfl rfl rfl h4 ?_
    refine w_imul (q := 25) rfl rfl ?_
    refine w_iadd (q := 26) rfl rfl ?_
    refine w_iconst (q := 27) rfl rfl ?_
    refine w_iadd (q := 28) rfl rfl ?_
    refine w_aload_n (q := 29) rfl rfl rfl ?_
    refine w_gfr (q := 32) rfl rfl rfl rfl (j := 133) rfl ?_
    refine w_iload_n (q := 33) rfl rfl rfl ?_
    refine w_iald (q := 34) (n := 32) (v := I 133 l1) rfl rfl rfl rfl rfl rfl h4 ?_
    obtain ⟨h5, k⟩ := k
    refine w_iast (q := 35) (n := 2800) rfl rfl rfl rfl rfl h5 ?_
    refine w_iinc (q := 38) (L' := [some (.ref 104), some (w_i (l1 + 1))]) (M' := []) rfl rfl rfl rfl rfl rfl ?_
    refine w_goto (t := 2) rfl rfl ?_
    exact k
theorem e250 {xs : Nat → Int32} {xl : Nat} {I J : w_I} {b : Bool} {Q : Option Value → w_I → w_I → Bool → Prop} {a1 : Int} (t : w_T xs xl 250 0 [some (.ref 104), some (w_i a1), none] [] [] I J b Q) : w_C xs xl 250 [.ref 104, w_i a1] I J b Q := w_en rfl t
theorem b250_0 {xs : Nat → Int32} {xl : Nat} {I J : w_I} {b : Bool} {Q : Option Value → w_I → w_I → Bool → Prop} {a1 : Int} (k : w_C xs xl 246 [.ref 104, w_i a1] I J b (fun v Ic Jc bc => w_T xs xl 250 5 [some (.ref 104), some (w_i a1), none] [] (w_pv v []) Ic Jc bc Q)) : w_T xs xl 250 0 [some (.ref 104), some (w_i a1), none] [] [] I J b Q := by
  refine w_aload_n (q := 1) rfl rfl rfl ?_
  refine w_iload_n (q := 2) rfl rfl rfl ?_
  refine w_callv (q := 5) rfl rfl rfl rfl rfl rfl ?_
  exact k
theorem b250_5 {xs : Nat → Int32} {xl : Nat} {I J : w_I} {b : Bool} {Q : Option Value → w_I → w_I → Bool → Prop} {l1 s0 : Int} {u2 : Option Value} (k : ((-2147483648 ≤ s0 ∧ s0 < 2147483648) ∧ ((¬ s0 = 0 → w_C xs xl 245 [.ref 104, w_i l1] I J b (fun v Ic Jc bc => w_T xs xl 250 15 [some (.ref 104), some (w_i l1), u2] [] (w_pv v []) Ic Jc bc Q)) ∧ (s0 = 0 → Q (some (w_i (-1))) I J b)))) : w_T xs xl 250 5 [some (.ref 104), some (w_i l1), u2] [] [w_i s0] I J b Q := by
  obtain ⟨h1, k⟩ := k
  refine w_zne (t := 10) (q := 8) rfl rfl rfl h1 (fun c2 => ?_) (fun c2 => ?_)
  · replace k := k.1 c2
    refine w_aload_n (q := 11) rfl rfl rfl ?_
    refine w_iload_n (q := 12) rfl rfl rfl ?_
    refine w_callv (q := 15) rfl rfl rfl rfl rfl rfl ?_
    exact k
  · replace k := k.2 c2
    refine w_iconst (q := 9) rfl rfl ?_
    exact w_iret rfl rfl k
theorem b250_15 {xs : Nat → Int32} {xl : Nat} {I J : w_I} {b : Bool} {Q : Option Value → w_I → w_I → Bool → Prop} {u1 u2 : Option Value} {s0 : Int} (k : ((-2147483648 ≤ s0 ∧ s0 < 2147483648) ∧ ((s0 < 100000000 → w_C xs xl 249 [.ref 104] I J b (fun v Ic Jc bc => w_T xs xl 250 30 [some (.ref 104), u1, some (w_i s0)] [] (w_pv v []) Ic Jc bc Q)) ∧ (¬ s0 < 100000000 → Q (some (w_i (-2))) I J b)))) : w_T xs xl 250 15 [some (.ref 104), u1, u2] [] [w_i s0] I J b Q := by
  refine w_istore_n (q := 16) (L' := [some (.ref 104), u1, some (w_i s0)]) (M' := []) rfl rfl rfl rfl rfl ?_
  refine w_iload_n (q := 17) rfl rfl rfl ?_
  refine w_ldc_w (q := 20) (n := 100000000) rfl rfl rfl ?_
  obtain ⟨h1, k⟩ := k
  refine w_clt (t := 26) (q := 23) rfl rfl rfl h1 (by decide) (fun c2 => ?_) (fun c2 => ?_)
  · replace k := k.1 c2
    refine w_aload_n (q := 27) rfl rfl rfl ?_
    refine w_callv (q := 30) rfl rfl rfl rfl rfl rfl ?_
    exact k
  · replace k := k.2 c2
    refine w_bipush (q := 25) rfl rfl rfl ?_
    exact w_iret rfl rfl k
theorem b250_30 {xs : Nat → Int32} {xl : Nat} {I J : w_I} {b : Bool} {Q : Option Value → w_I → w_I → Bool → Prop} {u1 : Option Value} {l2 : Int} (k : (((0 : Int) ≤ l2 ∧ l2 < 2147483648 ∧ (0 : Int) < 1000000 ∧ 1000000 < (2147483648 : Int)) ∧ Q (some (w_i (l2 / 1000000))) I J b)) : w_T xs xl 250 30 [some (.ref 104), u1, some (w_i l2)] [] [] I J b Q := by
  refine w_iload_n (q := 31) rfl rfl rfl ?_
  refine w_ldc_w (q := 34) (n := 1000000) rfl rfl rfl ?_
  obtain ⟨h1, k⟩ := k
  refine w_idiv (q := 35) rfl rfl h1 ?_
  exact w_iret rfl rfl k
theorem e251 {xs : Nat → Int32} {xl : Nat} {I J : w_I} {b : Bool} {Q : Option Value → w_I → w_I → Bool → Prop} {a1 : Int} (t : w_T xs xl 251 0 [some (.ref 104), some (w_i a1), none] [] [] I J b Q) : w_C xs xl 251 [.ref 104, w_i a1] I J b Q := w_en rfl t
theorem b251_0 {xs : Nat → Int32} {xl : Nat} {I J : w_I} {b : Bool} {Q : Option Value → w_I → w_I → Bool → Prop} {a1 : Int} (k : w_C xs xl 209 [w_i a1, w_i 1, w_i 20] I J b (fun v Ic Jc bc => w_T xs xl 251 7 [some (.ref 104), some (w_i a1), none] [] (w_pv v []) Ic Jc bc Q)) : w_T xs xl 251 0 [some (.ref 104), some (w_i a1), none] [] [] I J b Q := by
  refine w_iload_n (q := 1) rfl rfl rfl ?_
  refine w_iconst (q := 2) rfl rfl ?_
  refine w_bipush (q := 4) rfl rfl rfl ?_
  refine w_call (q := 7) rfl rfl rfl rfl rfl ?_
  exact k
theorem b251_7 {xs : Nat → Int32} {xl : Nat} {I J : w_I} {b : Bool} {Q : Option Value → w_I → w_I → Bool → Prop} {l1 s0 : Int} {u2 : Option Value} (k : ((-2147483648 ≤ s0 ∧ s0 < 2147483648) ∧ ((¬ s0 = 0 → w_C xs xl 238 [.ref 104, w_i l1, w_i (-1)] I J b (fun v Ic Jc bc => w_T xs xl 251 18 [some (.ref 104), some (w_i l1), u2] [] (w_pv v []) Ic Jc bc Q)) ∧ (s0 = 0 → Q (some (w_i (-1))) I J b)))) : w_T xs xl 251 7 [some (.ref 104), some (w_i l1), u2] [] [w_i s0] I J b Q := by
  obtain ⟨h1, k⟩ := k
  refine w_zne (t := 12) (q := 10) rfl rfl rfl h1 (fun c2 => ?_) (fun c2 => ?_)
  · replace k := k.1 c2
    refine w_aload_n (q := 13) rfl rfl rfl ?_
    refine w_iload_n (q := 14) rfl rfl rfl ?_
    refine w_iconst (q := 15) rfl rfl ?_
    refine w_callv (q := 18) rfl rfl rfl rfl rfl rfl ?_
    exact k
  · replace k := k.2 c2
    refine w_iconst (q := 11) rfl rfl ?_
    exact w_iret rfl rfl k
theorem b251_18 {xs : Nat → Int32} {xl : Nat} {I J : w_I} {b : Bool} {Q : Option Value → w_I → w_I → Bool → Prop} {u1 u2 : Option Value} (k : w_C xs xl 236 [.ref 104] I J b (fun v Ic Jc bc => w_T xs xl 251 22 [some (.ref 104), u1, u2] [] (w_pv v []) Ic Jc bc Q)) : w_T xs xl 251 18 [some (.ref 104), u1, u2] [] [] I J b Q := by
  refine w_aload_n (q := 19) rfl rfl rfl ?_
  refine w_callv (q := 22) rfl rfl rfl rfl rfl rfl ?_
  exact k
theorem b251_22 {xs : Nat → Int32} {xl : Nat} {I J : w_I} {b : Bool} {Q : Option Value → w_I → w_I → Bool → Prop} {u1 u2 : Option Value} {s0 : Int} (k : ((-2147483648 ≤ s0 ∧ s0 < 2147483648) ∧ ((s0 = 0 → w_C xs xl 243 [.ref 104, w_i (I 110 0), w_i 0] I J b (fun v Ic Jc bc => w_T xs xl 251 39 [some (.ref 104), u1, u2] [] (w_pv v []) Ic Jc bc Q)) ∧ (¬ s0 = 0 → Q (some (w_i (-2))) I J b)))) : w_T xs xl 251 22 [some (.ref 104), u1, u2] [] [w_i s0] I J b Q := by
  obtain ⟨h1, k⟩ := k
  refine w_zeq (t := 28) (q := 25) rfl rfl rfl h1 (fun c2 => ?_) (fun c2 => ?_)
  · replace k := k.1 c2
    refine w_aload_n (q := 29) rfl rfl rfl ?_
    refine w_aload_n (q := 30) rfl rfl rfl ?_
    refine w_gfr (q := 33) rfl rfl rfl rfl (j := 110) rfl ?_
    refine w_iconst (q := 34) rfl rfl ?_
    refine w_iald (q := 35) (n := 2800) (v := I 110 0) rfl rfl rfl rfl rfl rfl (by decide) ?_
    refine w_iconst (q := 36) rfl rfl ?_
    refine w_callv (q := 39) rfl rfl rfl rfl rfl rfl ?_
    exact k
  · replace k := k.2 c2
    refine w_bipush (q := 27) rfl rfl rfl ?_
    exact w_iret rfl rfl k
theorem b251_39 {xs : Nat → Int32} {xl : Nat} {I J : w_I} {b : Bool} {Q : Option Value → w_I → w_I → Bool → Prop} {u1 u2 : Option Value} {s0 : Int} (k : ((-2147483648 ≤ s0 ∧ s0 < 2147483648) ∧ ((s0 < 100000000 → (((0 : Int) ≤ s0 ∧ s0 < 2147483648 ∧ (0 : Int) < 1000000 ∧ 1000000 < (2147483648 : Int)) ∧ Q (some (w_i (s0 / 1000000))) I J b)) ∧ (¬ s0 < 100000000 → Q (some (w_i (-2))) I J b)))) : w_T xs xl 251 39 [some (.ref 104), u1, u2] [] [w_i s0] I J b Q := by
  refine w_istore_n (q := 40) (L' := [some (.ref 104), u1, some (w_i s0)]) (M' := []) rfl rfl rfl rfl rfl ?_
  refine w_iload_n (q := 41) rfl rfl rfl ?_
  refine w_ldc_w (q := 44) (n := 100000000) rfl rfl rfl ?_
  obtain ⟨h1, k⟩ := k
  refine w_clt (t := 52) (q := 47) rfl rfl rfl h1 (by decide) (fun c2 => ?_) (fun c2 => ?_)
  · replace k := k.1 c2
    refine w_iload_n (q := 53) rfl rfl rfl ?_
    refine w_ldc_w (q := 56) (n := 1000000) rfl rfl rfl ?_
    obtain ⟨h3, k⟩ := k
    refine w_idiv (q := 57) rfl rfl h3 ?_
    exact w_iret rfl rfl k
  · replace k := k.2 c2
    refine w_bipush (q := 49) rfl rfl rfl ?_
    refine w_goto (t := 57) rfl rfl ?_
    exact w_iret rfl rfl k
theorem e252 {xs : Nat → Int32} {xl : Nat} {I J : w_I} {b : Bool} {Q : Option Value → w_I → w_I → Bool → Prop} {a1 a2 a3 : Int} (t : w_T xs xl 252 0 [some (.ref 104), some (w_i a1), some (w_i a2), some (w_i a3), none, none, none, none] [] [] I J b Q) : w_C xs xl 252 [.ref 104, w_i a1, w_i a2, w_i a3] I J b Q := w_en rfl t
theorem b252_0 {xs : Nat → Int32} {xl : Nat} {I J : w_I} {b : Bool} {Q : Option Value → w_I → w_I → Bool → Prop} {a1 a2 a3 : Int} (k : w_T xs xl 252 6 [some (.ref 104), some (w_i a1), some (w_i a2), some (w_i a3), some (w_i 0), some (w_i 0), none, none] [] [] I J b Q) : w_T xs xl 252 0 [some (.ref 104), some (w_i a1), some (w_i a2), some (w_i a3), none, none, none, none] [] [] I J b Q := by
  refine w_iconst (q := 1) rfl rfl ?_
  refine w_istore (q := 3) (L' := [some (.ref 104), some (w_i a1), some (w_i a2), some (w_i a3), some (w_i 0), none, none, none]) (M' := []) rfl rfl rfl rfl rfl ?_
  refine w_iconst (q := 4) rfl rfl ?_
  refine w_istore (q := 6) (L' := [some (.ref 104), some (w_i a1), some (w_i a2), some (w_i a3), some (w_i 0), some (w_i 0), none, none]) (M' := []) rfl rfl rfl rfl rfl ?_
  exact k
theorem b252_6 {xs : Nat → Int32} {xl : Nat} {I J : w_I} {b : Bool} {Q : Option Value → w_I → w_I → Bool → Prop} {l1 l2 l3 l4 l5 : Int} {u6 u7 : Option Value} (k : ((-2147483648 ≤ l5 ∧ l5 < 2147483648) ∧ ((100 ≤ l5 → Q (some (w_i l4)) I J b) ∧ (¬ 100 ≤ l5 → w_C xs xl 204 [.ref 104] I J b (fun v Ic Jc bc => w_T xs xl 252 17 [some (.ref 104), some (w_i l1), some (w_i l2), some (w_i l3), some (w_i l4), some (w_i l5), u6, u7] [] (w_pv v []) Ic Jc bc Q))))) : w_T xs xl 252 6 [some (.ref 104), some (w_i l1), some (w_i l2), some (w_i l3), some (w_i l4), some (w_i l5), u6, u7] [] [] I J b Q := by
  refine w_iload (q := 8) rfl rfl rfl ?_
  refine w_bipush (q := 10) rfl rfl rfl ?_
  obtain ⟨h1, k⟩ := k
  refine w_cge (t := 154) (q := 13) rfl rfl rfl h1 (by decide) (fun c2 => ?_) (fun c2 => ?_)
  · replace k := k.1 c2
    refine w_iload (q := 156) rfl rfl rfl ?_
    exact w_iret rfl rfl k
  · replace k := k.2 c2
    refine w_aload_n (q := 14) rfl rfl rfl ?_
    refine w_callv (q := 17) rfl rfl rfl rfl rfl rfl ?_
    exact k
theorem b252_17 {xs : Nat → Int32} {xl : Nat} {I J : w_I} {b : Bool} {Q : Option Value → w_I → w_I → Bool → Prop} {l1 l2 l3 l4 l5 : Int} {u6 u7 : Option Value} (k : w_C xs xl 208 [.ref 104, w_i 2, w_i 1, w_i 9] (w_U I 124 0 l5) J b (fun v Ic Jc bc => w_T xs xl 252 33 [some (.ref 104), some (w_i l1), some (w_i l2), some (w_i l3), some (w_i l4), some (w_i l5), u6, u7] [] (w_pv v []) Ic Jc bc Q)) : w_T xs xl 252 17 [some (.ref 104), some (w_i l1), some (w_i l2), some (w_i l3), some (w_i l4), some (w_i l5), u6, u7] [] [] I J b Q := by
  refine w_aload_n (q := 18) rfl rfl rfl ?_
  refine w_gfr (q := 21) rfl rfl rfl rfl (j := 124) rfl ?_
  refine w_iconst (q := 22) rfl rfl ?_
  refine w_iload (q := 24) rfl rfl rfl ?_
  refine w_iast (q := 25) (n := 10) rfl rfl rfl rfl rfl (by decide) ?_
  refine w_aload_n (q := 26) rfl rfl rfl ?_
  refine w_iconst (q := 27) rfl rfl ?_
  refine w_iconst (q := 28) rfl rfl ?_
  refine w_bipush (q := 30) rfl rfl rfl ?_
  refine w_callv (q := 33) rfl rfl rfl rfl rfl rfl ?_
  exact k
theorem b252_33 {xs : Nat → Int32} {xl : Nat} {I J : w_I} {b : Bool} {Q : Option Value → w_I → w_I → Bool → Prop} {l1 l2 l3 l4 l5 s0 : Int} {u6 u7 : Option Value} (k : ((-2147483648 ≤ s0 ∧ s0 < 2147483648) ∧ ((¬ s0 = 0 → w_C xs xl 238 [.ref 104, w_i (I 110 1), w_i (-1)] I J b (fun v Ic Jc bc => w_T xs xl 252 54 [some (.ref 104), some (w_i l1), some (w_i l2), some (w_i l3), some (w_i l4), some (w_i l5), some (w_i s0), u7] [] (w_pv v []) Ic Jc bc Q)) ∧ (s0 = 0 → w_T xs xl 252 6 [some (.ref 104), some (w_i l1), some (w_i l2), some (w_i l3), some (w_i l4), some (w_i (l5 + 1)), some (w_i s0), u7] [] [] I J b Q)))) : w_T xs xl 252 33 [some (.ref 104), some (w_i l1), some (w_i l2), some (w_i l3), some (w_i l4), some (w_i l5), u6, u7] [] [w_i s0] I J b Q := by
  refine w_istore (q := 35) (L' := [some (.ref 104), some (w_i l1), some (w_i l2), some (w_i l3), some (w_i l4), some (w_i l5), some (w_i s0), u7]) (M' := []) rfl rfl rfl rfl rfl ?_
  refine w_iload (q := 37) rfl rfl rfl ?_
  obtain ⟨h1, k⟩ := k
  refine w_zne (t := 43) (q := 40) rfl rfl rfl h1 (fun c2 => ?_) (fun c2 => ?_)
  · replace k := k.1 c2
    refine w_aload_n (q := 44) rfl rfl rfl ?_
    refine w_aload_n (q := 45) rfl rfl rfl ?_
    refine w_gfr (q := 48) rfl rfl rfl rfl (j := 110) rfl ?_
    refine w_iconst (q := 49) rfl rfl ?_
    refine w_iald (q := 50) (n := 2800) (v := I 110 1) rfl rfl rfl rfl rfl rfl (by decide) ?_
    refine w_iconst (q := 51) rfl rfl ?_
    refine w_callv (q := 54) rfl rfl rfl rfl rfl rfl ?_
    exact k
  · replace k := k.2 c2
    refine w_goto (t := 148) rfl rfl ?_
    refine w_iinc (q := 151) (L' := [some (.ref 104), some (w_i l1), some (w_i l2), some (w_i l3), some (w_i l4), some (w_i (l5 + 1)), some (w_i s0), u7]) (M' := []) rfl rfl rfl rfl rfl rfl ?_
    refine w_goto (t := 6) rfl rfl ?_
    exact k
theorem b252_54 {xs : Nat → Int32} {xl : Nat} {I J : w_I} {b : Bool} {Q : Option Value → w_I → w_I → Bool → Prop} {l1 l2 l3 l4 l5 l6 : Int} {u7 : Option Value} (k : w_T xs xl 252 57 [some (.ref 104), some (w_i l1), some (w_i l2), some (w_i l3), some (w_i l4), some (w_i l5), some (w_i l6), some (w_i 0)] [] [] I J b Q) : w_T xs xl 252 54 [some (.ref 104), some (w_i l1), some (w_i l2), some (w_i l3), some (w_i l4), some (w_i l5), some (w_i l6), u7] [] [] I J b Q := by
  refine w_iconst (q := 55) rfl rfl ?_
  refine w_istore (q := 57) (L' := [some (.ref 104), some (w_i l1), some (w_i l2), some (w_i l3), some (w_i l4), some (w_i l5), some (w_i l6), some (w_i 0)]) (M' := []) rfl rfl rfl rfl rfl ?_
  exact k
theorem b252_57 {xs : Nat → Int32} {xl : Nat} {I J : w_I} {b : Bool} {Q : Option Value → w_I → w_I → Bool → Prop} {l1 l2 l3 l4 l5 l6 l7 : Int} (k : ((-2147483648 ≤ l7 ∧ l7 < 2147483648) ∧ (-2147483648 ≤ I 104 36 ∧ I 104 36 < 2147483648) ∧ ((I 104 36 ≤ l7 → (((0 : Int) ≤ l5 ∧ l5 < 2147483648 ∧ (0 : Int) < I 110 1 ∧ I 110 1 < (2147483648 : Int)) ∧ w_C xs xl 237 [.ref 104, w_i (-1), w_i (l5 / I 110 1), w_i (-1), w_i l5, w_i 1, w_i 0] I J b (fun v Ic Jc bc => w_T xs xl 252 113 [some (.ref 104), some (w_i l1), some (w_i l2), some (w_i l3), some (w_i l4), some (w_i l5), some (w_i l6), some (w_i l7)] [] (w_pv v []) Ic Jc bc Q))) ∧ (¬ I 104 36 ≤ l7 → ((0 ≤ l7 ∧ l7 < 32) ∧ ((-2147483648 ≤ I 128 l7 ∧ I 128 l7 < 2147483648) ∧ (-2147483648 ≤ l2 ∧ l2 < 2147483648) ∧ ((I 128 l7 < l2 → w_T xs xl 252 57 [some (.ref 104), some (w_i l1), some (w_i l2), some (w_i l3), some (w_i l4), some (w_i l5), some (w_i l6), some (w_i (l7 + 1))] [] [] I J b Q) ∧ (¬ I 128 l7 < l2 → w_T xs xl 252 57 [some (.ref 104), some (w_i l1), some (w_i l2), some (w_i l3), some (w_i l4), some (w_i l5), some (w_i l6), some (w_i (l7 + 1))] [] [] (w_U I 128 l7 (I 128 l7 + l3)) J b Q)))))))) : w_T xs xl 252 57 [some (.ref 104), some (w_i l1), some (w_i l2), some (w_i l3), some (w_i l4), some (w_i l5), some (w_i l6), some (w_i l7)] [] [] I J b Q := by
  refine w_iload (q := 59) rfl rfl rfl ?_
  refine w_aload_n (q := 60) rfl rfl rfl ?_
  refine w_gfi (q := 63) (k' := 36) (v := I 104 36) rfl rfl rfl rfl rfl rfl rfl ?_
  obtain ⟨h1, h2, k⟩ := k
  refine w_cge (t := 94) (q := 66) rfl rfl rfl h1 h2 (fun c3 => ?_) (fun c3 => ?_)
  · replace k := k.1 c3
    refine w_aload_n (q := 95) rfl rfl rfl ?_
    refine w_iconst (q := 96) rfl rfl ?_
    refine w_iload (q := 98) rfl rfl rfl ?_
    refine w_aload_n (q := 99) rfl rfl rfl ?_
    refine w_gfr (q := 102) rfl rfl rfl rfl (j := 110) rfl ?_
    refine w_iconst (q := 103) rfl rfl ?_
    refine w_iald (q := 104) (n := 2800) (v := I 110 1) rfl rfl rfl rfl rfl rfl (by decide) ?_
    obtain ⟨h4, k⟩ := k
    refine w_idiv (q := 105) rfl rfl h4 ?_
    refine w_iconst (q := 106) rfl rfl ?_
    refine w_iload (q := 108) rfl rfl rfl ?_
    refine w_iconst (q := 109) rfl rfl ?_
    refine w_iconst (q := 110) rfl rfl ?_
    refine w_callv (q := 113) rfl rfl rfl rfl rfl rfl ?_
    exact k
  · replace k := k.2 c3
    refine w_aload_n (q := 67) rfl rfl rfl ?_
    refine w_gfr (q := 70) rfl rfl rfl rfl (j := 128) rfl ?_
    refine w_iload (q := 72) rfl rfl rfl ?_
    obtain ⟨h5, k⟩ := k
    refine w_iald (q := 73) (n := 32) (v := I 128 l7) rfl rfl rfl rfl rfl rfl h5 ?_
    refine w_iload_n (q := 74) rfl rfl rfl ?_
    obtain ⟨h6, h7, k⟩ := k
    refine w_clt (t := 88) (q := 77) rfl rfl rfl h6 h7 (fun c8 => ?_) (fun c8 => ?_)
    · replace k := k.1 c8
      refine w_iinc (q := 91) (L' := [some (.ref 104), some (w_i l1), some (w_i l2), some (w_i l3), some (w_i l4), some (w_i l5), some (w_i l6), some (w_i (l7 + 1))]) (M' := []) rfl rfl rfl rfl rfl rfl ?_
      refine w_goto (t := 57) rfl rfl ?_
      exact k
    · replace k := k.2 c8
      refine w_aload_n (q := 78) rfl rfl rfl ?_
      refine w_gfr (q := 81) rfl rfl rfl rfl (j := 128) rfl ?_
      refine w_iload (q := 83) rfl rfl rfl ?_
      refine w_dup2 (q := 84) rfl rfl rfl rfl ?_
      refine w_iald (q := 85) (n := 32) (v := I 128 l7) rfl rfl rfl rfl rfl rfl h5 ?_
      refine w_iload_n (q := 86) rfl rfl rfl ?_
      refine w_iadd (q := 87) rfl rfl ?_
      refine w_iast (q := 88) (n := 32) rfl rfl rfl rfl rfl h5 ?_
      refine w_iinc (q := 91) (L' := [some (.ref 104), some (w_i l1), some (w_i l2), some (w_i l3), some (w_i l4), some (w_i l5), some (w_i l6), some (w_i (l7 + 1))]) (M' := []) rfl rfl rfl rfl rfl rfl ?_
      refine w_goto (t := 57) rfl rfl ?_
      exact k
theorem b252_113 {xs : Nat → Int32} {xl : Nat} {I J : w_I} {b : Bool} {Q : Option Value → w_I → w_I → Bool → Prop} {l1 l2 l3 l4 l5 l6 : Int} {u7 : Option Value} (k : w_C xs xl 243 [.ref 104, w_i l1, w_i 0] I J b (fun v Ic Jc bc => w_T xs xl 252 119 [some (.ref 104), some (w_i l1), some (w_i l2), some (w_i l3), some (w_i l4), some (w_i l5), some (w_i l6), u7] [] (w_pv v []) Ic Jc bc Q)) : w_T xs xl 252 113 [some (.ref 104), some (w_i l1), some (w_i l2), some (w_i l3), some (w_i l4), some (w_i l5), some (w_i l6), u7] [] [] I J b Q := by
  refine w_aload_n (q := 114) rfl rfl rfl ?_
  refine w_iload_n (q := 115) rfl rfl rfl ?_
  refine w_iconst (q := 116) rfl rfl ?_
  refine w_callv (q := 119) rfl rfl rfl rfl rfl rfl ?_
  exact k
theorem b252_119 {xs : Nat → Int32} {xl : Nat} {I J : w_I} {b : Bool} {Q : Option Value → w_I → w_I → Bool → Prop} {l1 l2 l3 l4 l5 l6 s0 : Int} {u7 : Option Value} (k : ((-2147483648 ≤ s0 ∧ s0 < 2147483648) ∧ ((s0 < 100000000 → (((0 : Int) ≤ s0 ∧ s0 < 2147483648 ∧ (0 : Int) < 1000000 ∧ 1000000 < (2147483648 : Int)) ∧ w_T xs xl 252 6 [some (.ref 104), some (w_i l1), some (w_i l2), some (w_i l3), some (w_i (l4 + l6 * (s0 / 1000000))), some (w_i (l5 + 1)), some (w_i l6), some (w_i s0)] [] [] I J b Q)) ∧ (¬ s0 < 100000000 → w_T xs xl 252 6 [some (.ref 104), some (w_i l1), some (w_i l2), some (w_i l3), some (w_i (l4 + l6 * 24)), some (w_i (l5 + 1)), some (w_i l6), some (w_i s0)] [] [] I J b Q)))) : w_T xs xl 252 119 [some (.ref 104), some (w_i l1), some (w_i l2), some (w_i l3), some (w_i l4), some (w_i l5), some (w_i l6), u7] [] [w_i s0] I J b Q := by
  refine w_istore (q := 121) (L' := [some (.ref 104), some (w_i l1), some (w_i l2), some (w_i l3), some (w_i l4), some (w_i l5), some (w_i l6), some (w_i s0)]) (M' := []) rfl rfl rfl rfl rfl ?_
  refine w_iload (q := 123) rfl rfl rfl ?_
  refine w_iload (q := 125) rfl rfl rfl ?_
  refine w_iload (q := 127) rfl rfl rfl ?_
  refine w_ldc_w (q := 130) (n := 100000000) rfl rfl rfl ?_
  obtain ⟨h1, k⟩ := k
  refine w_clt (t := 138) (q := 133) rfl rfl rfl h1 (by decide) (fun c2 => ?_) (fun c2 => ?_)
  · replace k := k.1 c2
    refine w_iload (q := 140) rfl rfl rfl ?_
    refine w_ldc_w (q := 143) (n := 1000000) rfl rfl rfl ?_
    obtain ⟨h3, k⟩ := k
    refine w_idiv (q := 144) rfl rfl h3 ?_
    refine w_imul (q := 145) rfl rfl ?_
    refine w_iadd (q := 146) rfl rfl ?_
    refine w_istore (q := 148) (L' := [some (.ref 104), some (w_i l1), some (w_i l2), some (w_i l3), some (w_i (l4 + l6 * (s0 / 1000000))), some (w_i l5), some (w_i l6), some (w_i s0)]) (M' := []) rfl rfl rfl rfl rfl ?_
    refine w_iinc (q := 151) (L' := [some (.ref 104), some (w_i l1), some (w_i l2), some (w_i l3), some (w_i (l4 + l6 * (s0 / 1000000))), some (w_i (l5 + 1)), some (w_i l6), some (w_i s0)]) (M' := []) rfl rfl rfl rfl rfl rfl ?_
    refine w_goto (t := 6) rfl rfl ?_
    exact k
  · replace k := k.2 c2
    refine w_bipush (q := 135) rfl rfl rfl ?_
    refine w_goto (t := 144) rfl rfl ?_
    refine w_imul (q := 145) rfl rfl ?_
    refine w_iadd (q := 146) rfl rfl ?_
    refine w_istore (q := 148) (L' := [some (.ref 104), some (w_i l1), some (w_i l2), some (w_i l3), some (w_i (l4 + l6 * 24)), some (w_i l5), some (w_i l6), some (w_i s0)]) (M' := []) rfl rfl rfl rfl rfl ?_
    refine w_iinc (q := 151) (L' := [some (.ref 104), some (w_i l1), some (w_i l2), some (w_i l3), some (w_i (l4 + l6 * 24)), some (w_i (l5 + 1)), some (w_i l6), some (w_i s0)]) (M' := []) rfl rfl rfl rfl rfl rfl ?_
    refine w_goto (t := 6) rfl rfl ?_
    exact k
theorem e253 {xs : Nat → Int32} {xl : Nat} {I J : w_I} {b : Bool} {Q : Option Value → w_I → w_I → Bool → Prop} (t : w_T xs xl 253 0 [some (.ref 104)] [] [] I J b Q) : w_C xs xl 253 [.ref 104] I J b Q := w_en rfl t
theorem b253_0 {xs : Nat → Int32} {xl : Nat} {I J : w_I} {b : Bool} {Q : Option Value → w_I → w_I → Bool → Prop} (k : w_C xs xl 236 [.ref 104] I J b (fun v Ic Jc bc => w_T xs xl 253 4 [some (.ref 104)] [] (w_pv v []) Ic Jc bc Q)) : w_T xs xl 253 0 [some (.ref 104)] [] [] I J b Q := by
  refine w_aload_n (q := 1) rfl rfl rfl ?_
  refine w_callv (q := 4) rfl rfl rfl rfl rfl rfl ?_
  exact k
theorem b253_4 {xs : Nat → Int32} {xl : Nat} {I J : w_I} {b : Bool} {Q : Option Value → w_I → w_I → Bool → Prop} {s0 : Int} (k : ((-2147483648 ≤ s0 ∧ s0 < 2147483648) ∧ ((s0 = 0 → w_C xs xl 252 [.ref 104, w_i (I 110 0), w_i 24, w_i 0] I J b (fun v Ic Jc bc => w_T xs xl 253 25 [some (.ref 104)] [] (w_pv v []) Ic Jc bc Q)) ∧ (¬ s0 = 0 → Q (some (w_i (-2))) I J b)))) : w_T xs xl 253 4 [some (.ref 104)] [] [w_i s0] I J b Q := by
  obtain ⟨h1, k⟩ := k
  refine w_zeq (t := 12) (q := 7) rfl rfl rfl h1 (fun c2 => ?_) (fun c2 => ?_)
  · replace k := k.1 c2
    refine w_aload_n (q := 13) rfl rfl rfl ?_
    refine w_aload_n (q := 14) rfl rfl rfl ?_
    refine w_gfr (q := 17) rfl rfl rfl rfl (j := 110) rfl ?_
    refine w_iconst (q := 18) rfl rfl ?_
    refine w_iald (q := 19) (n := 2800) (v := I 110 0) rfl rfl rfl rfl rfl rfl (by decide) ?_
    refine w_bipush (q := 21) rfl rfl rfl ?_
    refine w_iconst (q := 22) rfl rfl ?_
    refine w_callv (q := 25) rfl rfl rfl rfl rfl rfl ?_
    exact k
  · replace k := k.2 c2
    refine w_bipush (q := 9) rfl rfl rfl ?_
    refine w_goto (t := 25) rfl rfl ?_
    exact w_iret rfl rfl k
theorem b253_25 {xs : Nat → Int32} {xl : Nat} {I J : w_I} {b : Bool} {Q : Option Value → w_I → w_I → Bool → Prop} {s0 : Int} (k : Q (some (w_i s0)) I J b) : w_T xs xl 253 25 [some (.ref 104)] [] [w_i s0] I J b Q := by
  exact w_iret rfl rfl k
theorem e254 {xs : Nat → Int32} {xl : Nat} {I J : w_I} {b : Bool} {Q : Option Value → w_I → w_I → Bool → Prop} {a1 : Int} (t : w_T xs xl 254 0 [some (.ref 104), some (w_i a1), none, none, none, none] [] [] I J b Q) : w_C xs xl 254 [.ref 104, w_i a1] I J b Q := w_en rfl t
theorem b254_0 {xs : Nat → Int32} {xl : Nat} {I J : w_I} {b : Bool} {Q : Option Value → w_I → w_I → Bool → Prop} {a1 : Int} (k : w_C xs xl 236 [.ref 104] I J b (fun v Ic Jc bc => w_T xs xl 254 4 [some (.ref 104), some (w_i a1), none, none, none, none] [] (w_pv v []) Ic Jc bc Q)) : w_T xs xl 254 0 [some (.ref 104), some (w_i a1), none, none, none, none] [] [] I J b Q := by
  refine w_aload_n (q := 1) rfl rfl rfl ?_
  refine w_callv (q := 4) rfl rfl rfl rfl rfl rfl ?_
  exact k
theorem b254_4 {xs : Nat → Int32} {xl : Nat} {I J : w_I} {b : Bool} {Q : Option Value → w_I → w_I → Bool → Prop} {l1 s0 : Int} {u2 u3 u4 u5 : Option Value} (k : ((-2147483648 ≤ s0 ∧ s0 < 2147483648) ∧ ((¬ s0 = 0 → Q (some (w_i (-2))) I J b) ∧ (s0 = 0 → ((-2147483648 ≤ I 110 0 ∧ I 110 0 < 2147483648) ∧ ((¬ I 110 0 = 24 → w_T xs xl 254 28 [some (.ref 104), some (w_i l1), some (w_i (-1)), some (w_i 0), some (w_i 0), u5] [] [] I J b Q) ∧ (I 110 0 = 24 → Q (some (w_i (-2))) I J b))))))) : w_T xs xl 254 4 [some (.ref 104), some (w_i l1), u2, u3, u4, u5] [] [w_i s0] I J b Q := by
  obtain ⟨h1, k⟩ := k
  refine w_zne (t := 18) (q := 7) rfl rfl rfl h1 (fun c2 => ?_) (fun c2 => ?_)
  · replace k := k.1 c2
    refine w_bipush (q := 20) rfl rfl rfl ?_
    exact w_iret rfl rfl k
  · replace k := k.2 c2
    refine w_aload_n (q := 8) rfl rfl rfl ?_
    refine w_gfr (q := 11) rfl rfl rfl rfl (j := 110) rfl ?_
    refine w_iconst (q := 12) rfl rfl ?_
    refine w_iald (q := 13) (n := 2800) (v := I 110 0) rfl rfl rfl rfl rfl rfl (by decide) ?_
    refine w_bipush (q := 15) rfl rfl rfl ?_
    obtain ⟨h3, k⟩ := k
    refine w_cne (t := 21) (q := 18) rfl rfl rfl h3 (by decide) (fun c4 => ?_) (fun c4 => ?_)
    · replace k := k.1 c4
      refine w_iconst (q := 22) rfl rfl ?_
      refine w_istore_n (q := 23) (L' := [some (.ref 104), some (w_i l1), some (w_i (-1)), u3, u4, u5]) (M' := []) rfl rfl rfl rfl rfl ?_
      refine w_iconst (q := 24) rfl rfl ?_
      refine w_istore_n (q := 25) (L' := [some (.ref 104), some (w_i l1), some (w_i (-1)), some (w_i 0), u4, u5]) (M' := []) rfl rfl rfl rfl rfl ?_
      refine w_iconst (q := 26) rfl rfl ?_
      refine w_istore (q := 28) (L' := [some (.ref 104), some (w_i l1), some (w_i (-1)), some (w_i 0), some (w_i 0), u5]) (M' := []) rfl rfl rfl rfl rfl ?_
      exact k
    · replace k := k.2 c4
      refine w_bipush (q := 20) rfl rfl rfl ?_
      exact w_iret rfl rfl k
theorem b254_28 {xs : Nat → Int32} {xl : Nat} {I J : w_I} {b : Bool} {Q : Option Value → w_I → w_I → Bool → Prop} {l1 l2 l3 l4 : Int} {u5 : Option Value} (k : ((-2147483648 ≤ l4 ∧ l4 < 2147483648) ∧ (-2147483648 ≤ I 110 0 ∧ I 110 0 < 2147483648) ∧ ((I 110 0 < l4 → ((-2147483648 ≤ l1 ∧ l1 < 2147483648) ∧ ((l1 = 0 → Q (some (w_i l3)) I J b) ∧ (¬ l1 = 0 → Q (some (w_i l2)) I J b)))) ∧ (¬ I 110 0 < l4 → w_C xs xl 252 [.ref 104, w_i (I 110 0 + 1), w_i l4, w_i 1] I J b (fun v Ic Jc bc => w_T xs xl 254 54 [some (.ref 104), some (w_i l1), some (w_i l2), some (w_i l3), some (w_i l4), u5] [] (w_pv v []) Ic Jc bc Q))))) : w_T xs xl 254 28 [some (.ref 104), some (w_i l1), some (w_i l2), some (w_i l3), some (w_i l4), u5] [] [] I J b Q := by
  refine w_iload (q := 30) rfl rfl rfl ?_
  refine w_aload_n (q := 31) rfl rfl rfl ?_
  refine w_gfr (q := 34) rfl rfl rfl rfl (j := 110) rfl ?_
  refine w_iconst (q := 35) rfl rfl ?_
  refine w_iald (q := 36) (n := 2800) (v := I 110 0) rfl rfl rfl rfl rfl rfl (by decide) ?_
  obtain ⟨h1, h2, k⟩ := k
  refine w_cgt (t := 81) (q := 39) rfl rfl rfl h1 h2 (fun c3 => ?_) (fun c3 => ?_)
  · replace k := k.1 c3
    refine w_iload_n (q := 82) rfl rfl rfl ?_
    obtain ⟨h4, k⟩ := k
    refine w_zeq (t := 89) (q := 85) rfl rfl rfl h4 (fun c5 => ?_) (fun c5 => ?_)
    · replace k := k.1 c5
      refine w_iload_n (q := 90) rfl rfl rfl ?_
      exact w_iret rfl rfl k
    · replace k := k.2 c5
      refine w_iload_n (q := 86) rfl rfl rfl ?_
      refine w_goto (t := 90) rfl rfl ?_
      exact w_iret rfl rfl k
  · replace k := k.2 c3
    refine w_aload_n (q := 40) rfl rfl rfl ?_
    refine w_aload_n (q := 41) rfl rfl rfl ?_
    refine w_gfr (q := 44) rfl rfl rfl rfl (j := 110) rfl ?_
    refine w_iconst (q := 45) rfl rfl ?_
    refine w_iald (q := 46) (n := 2800) (v := I 110 0) rfl rfl rfl rfl rfl rfl (by decide) ?_
    refine w_iconst (q := 47) rfl rfl ?_
    refine w_iadd (q := 48) rfl rfl ?_
    refine w_iload (q := 50) rfl rfl rfl ?_
    refine w_iconst (q := 51) rfl rfl ?_
    refine w_callv (q := 54) rfl rfl rfl rfl rfl rfl ?_
    exact k
theorem b254_54 {xs : Nat → Int32} {xl : Nat} {I J : w_I} {b : Bool} {Q : Option Value → w_I → w_I → Bool → Prop} {l1 l2 l3 l4 s0 : Int} {u5 : Option Value} (k : ((-2147483648 ≤ l2 ∧ l2 < 2147483648) ∧ ((l2 < 0 → w_T xs xl 254 28 [some (.ref 104), some (w_i l1), some (w_i l4), some (w_i s0), some (w_i (l4 + 1)), some (w_i s0)] [] [] I J b Q) ∧ (¬ l2 < 0 → ((-2147483648 ≤ s0 ∧ s0 < 2147483648) ∧ (-2147483648 ≤ l3 ∧ l3 < 2147483648) ∧ ((s0 < l3 → w_T xs xl 254 28 [some (.ref 104), some (w_i l1), some (w_i l4), some (w_i s0), some (w_i (l4 + 1)), some (w_i s0)] [] [] I J b Q) ∧ (¬ s0 < l3 → w_T xs xl 254 28 [some (.ref 104), some (w_i l1), some (w_i l2), some (w_i l3), some (w_i (l4 + 1)), some (w_i s0)] [] [] I J b Q))))))) : w_T xs xl 254 54 [some (.ref 104), some (w_i l1), some (w_i l2), some (w_i l3), some (w_i l4), u5] [] [w_i s0] I J b Q := by
  refine w_istore (q := 56) (L' := [some (.ref 104), some (w_i l1), some (w_i l2), some (w_i l3), some (w_i l4), some (w_i s0)]) (M' := []) rfl rfl rfl rfl rfl ?_
  refine w_iload_n (q := 57) rfl rfl rfl ?_
  obtain ⟨h1, k⟩ := k
  refine w_zlt (t := 69) (q := 60) rfl rfl rfl h1 (fun c2 => ?_) (fun c2 => ?_)
  · replace k := k.1 c2
    refine w_iload (q := 71) rfl rfl rfl ?_
    refine w_istore_n (q := 72) (L' := [some (.ref 104), some (w_i l1), some (w_i l4), some (w_i l3), some (w_i l4), some (w_i s0)]) (M' := []) rfl rfl rfl rfl rfl ?_
    refine w_iload (q := 74) rfl rfl rfl ?_
    refine w_istore_n (q := 75) (L' := [some (.ref 104), some (w_i l1), some (w_i l4), some (w_i s0), some (w_i l4), some (w_i s0)]) (M' := []) rfl rfl rfl rfl rfl ?_
    refine w_iinc (q := 78) (L' := [some (.ref 104), some (w_i l1), some (w_i l4), some (w_i s0), some (w_i (l4 + 1)), some (w_i s0)]) (M' := []) rfl rfl rfl rfl rfl rfl ?_
    refine w_goto (t := 28) rfl rfl ?_
    exact k
  · replace k := k.2 c2
    refine w_iload (q := 62) rfl rfl rfl ?_
    refine w_iload_n (q := 63) rfl rfl rfl ?_
    obtain ⟨h3, h4, k⟩ := k
    refine w_clt (t := 69) (q := 66) rfl rfl rfl h3 h4 (fun c5 => ?_) (fun c5 => ?_)
    · replace k := k.1 c5
      refine w_iload (q := 71) rfl rfl rfl ?_
      refine w_istore_n (q := 72) (L' := [some (.ref 104), some (w_i l1), some (w_i l4), some (w_i l3), some (w_i l4), some (w_i s0)]) (M' := []) rfl rfl rfl rfl rfl ?_
      refine w_iload (q := 74) rfl rfl rfl ?_
      refine w_istore_n (q := 75) (L' := [some (.ref 104), some (w_i l1), some (w_i l4), some (w_i s0), some (w_i l4), some (w_i s0)]) (M' := []) rfl rfl rfl rfl rfl ?_
      refine w_iinc (q := 78) (L' := [some (.ref 104), some (w_i l1), some (w_i l4), some (w_i s0), some (w_i (l4 + 1)), some (w_i s0)]) (M' := []) rfl rfl rfl rfl rfl rfl ?_
      refine w_goto (t := 28) rfl rfl ?_
      exact k
    · replace k := k.2 c5
      refine w_goto (t := 75) rfl rfl ?_
      refine w_iinc (q := 78) (L' := [some (.ref 104), some (w_i l1), some (w_i l2), some (w_i l3), some (w_i (l4 + 1)), some (w_i s0)]) (M' := []) rfl rfl rfl rfl rfl rfl ?_
      refine w_goto (t := 28) rfl rfl ?_
      exact k
theorem e255 {xs : Nat → Int32} {xl : Nat} {I J : w_I} {b : Bool} {Q : Option Value → w_I → w_I → Bool → Prop} (t : w_T xs xl 255 0 [some (.ref 104), none, none, none, none] [] [] I J b Q) : w_C xs xl 255 [.ref 104] I J b Q := w_en rfl t
theorem b255_0 {xs : Nat → Int32} {xl : Nat} {I J : w_I} {b : Bool} {Q : Option Value → w_I → w_I → Bool → Prop} (k : w_C xs xl 236 [.ref 104] I J b (fun v Ic Jc bc => w_T xs xl 255 4 [some (.ref 104), none, none, none, none] [] (w_pv v []) Ic Jc bc Q)) : w_T xs xl 255 0 [some (.ref 104), none, none, none, none] [] [] I J b Q := by
  refine w_aload_n (q := 1) rfl rfl rfl ?_
  refine w_callv (q := 4) rfl rfl rfl rfl rfl rfl ?_
  exact k
theorem b255_4 {xs : Nat → Int32} {xl : Nat} {I J : w_I} {b : Bool} {Q : Option Value → w_I → w_I → Bool → Prop} {u1 u2 u3 u4 : Option Value} {s0 : Int} (k : ((-2147483648 ≤ s0 ∧ s0 < 2147483648) ∧ ((s0 = 0 → w_T xs xl 255 17 [some (.ref 104), some (w_i (-2)), some (w_i 0), some (w_i 0), u4] [] [] I J b Q) ∧ (¬ s0 = 0 → Q (some (w_i (-2))) I J b)))) : w_T xs xl 255 4 [some (.ref 104), u1, u2, u3, u4] [] [w_i s0] I J b Q := by
  obtain ⟨h1, k⟩ := k
  refine w_zeq (t := 10) (q := 7) rfl rfl rfl h1 (fun c2 => ?_) (fun c2 => ?_)
  · replace k := k.1 c2
    refine w_bipush (q := 12) rfl rfl rfl ?_
    refine w_istore_n (q := 13) (L' := [some (.ref 104), some (w_i (-2)), u2, u3, u4]) (M' := []) rfl rfl rfl rfl rfl ?_
    refine w_iconst (q := 14) rfl rfl ?_
    refine w_istore_n (q := 15) (L' := [some (.ref 104), some (w_i (-2)), some (w_i 0), u3, u4]) (M' := []) rfl rfl rfl rfl rfl ?_
    refine w_iconst (q := 16) rfl rfl ?_
    refine w_istore_n (q := 17) (L' := [some (.ref 104), some (w_i (-2)), some (w_i 0), some (w_i 0), u4]) (M' := []) rfl rfl rfl rfl rfl ?_
    exact k
  · replace k := k.2 c2
    refine w_bipush (q := 9) rfl rfl rfl ?_
    exact w_iret rfl rfl k
theorem b255_17 {xs : Nat → Int32} {xl : Nat} {I J : w_I} {b : Bool} {Q : Option Value → w_I → w_I → Bool → Prop} {l1 l2 l3 : Int} {u4 : Option Value} (k : ((-2147483648 ≤ l3 ∧ l3 < 2147483648) ∧ (-2147483648 ≤ I 110 0 ∧ I 110 0 < 2147483648) ∧ ((I 110 0 ≤ l3 → Q (some (w_i l1)) I J b) ∧ (¬ I 110 0 ≤ l3 → w_C xs xl 214 [.ref 104, w_i l3] I J b (fun v Ic Jc bc => w_T xs xl 255 32 [some (.ref 104), some (w_i l1), some (w_i l2), some (w_i l3), u4] [] (w_pv v []) Ic Jc bc Q))))) : w_T xs xl 255 17 [some (.ref 104), some (w_i l1), some (w_i l2), some (w_i l3), u4] [] [] I J b Q := by
  refine w_iload_n (q := 18) rfl rfl rfl ?_
  refine w_aload_n (q := 19) rfl rfl rfl ?_
  refine w_gfr (q := 22) rfl rfl rfl rfl (j := 110) rfl ?_
  refine w_iconst (q := 23) rfl rfl ?_
  refine w_iald (q := 24) (n := 2800) (v := I 110 0) rfl rfl rfl rfl rfl rfl (by decide) ?_
  obtain ⟨h1, h2, k⟩ := k
  refine w_cge (t := 78) (q := 27) rfl rfl rfl h1 h2 (fun c3 => ?_) (fun c3 => ?_)
  · replace k := k.1 c3
    refine w_iload_n (q := 79) rfl rfl rfl ?_
    exact w_iret rfl rfl k
  · replace k := k.2 c3
    refine w_aload_n (q := 28) rfl rfl rfl ?_
    refine w_iload_n (q := 29) rfl rfl rfl ?_
    refine w_callv (q := 32) rfl rfl rfl rfl rfl rfl ?_
    exact k
theorem b255_32 {xs : Nat → Int32} {xl : Nat} {I J : w_I} {b : Bool} {Q : Option Value → w_I → w_I → Bool → Prop} {l1 l2 l3 s0 : Int} {u4 : Option Value} (k : ((-2147483648 ≤ s0 ∧ s0 < 2147483648) ∧ ((s0 < 0 → w_C xs xl 252 [.ref 104, w_i (I 110 0 - 1), w_i l3, w_i (-1)] I J b (fun v Ic Jc bc => w_T xs xl 255 52 [some (.ref 104), some (w_i l1), some (w_i l2), some (w_i l3), u4] [] (w_pv v []) Ic Jc bc Q)) ∧ (¬ s0 < 0 → w_T xs xl 255 17 [some (.ref 104), some (w_i l1), some (w_i l2), some (w_i (l3 + 1)), u4] [] [] I J b Q)))) : w_T xs xl 255 32 [some (.ref 104), some (w_i l1), some (w_i l2), some (w_i l3), u4] [] [w_i s0] I J b Q := by
  obtain ⟨h1, k⟩ := k
  refine w_zlt (t := 38) (q := 35) rfl rfl rfl h1 (fun c2 => ?_) (fun c2 => ?_)
  · replace k := k.1 c2
    refine w_aload_n (q := 39) rfl rfl rfl ?_
    refine w_aload_n (q := 40) rfl rfl rfl ?_
    refine w_gfr (q := 43) rfl rfl rfl rfl (j := 110) rfl ?_
    refine w_iconst (q := 44) rfl rfl ?_
    refine w_iald (q := 45) (n := 2800) (v := I 110 0) rfl rfl rfl rfl rfl rfl (by decide) ?_
    refine w_iconst (q := 46) rfl rfl ?_
    refine w_isub (q := 47) rfl rfl ?_
    refine w_iload_n (q := 48) rfl rfl rfl ?_
    refine w_iconst (q := 49) rfl rfl ?_
    refine w_callv (q := 52) rfl rfl rfl rfl rfl rfl ?_
    exact k
  · replace k := k.2 c2
    refine w_goto (t := 72) rfl rfl ?_
    refine w_iinc (q := 75) (L' := [some (.ref 104), some (w_i l1), some (w_i l2), some (w_i (l3 + 1)), u4]) (M' := []) rfl rfl rfl rfl rfl rfl ?_
    refine w_goto (t := 17) rfl rfl ?_
    exact k
theorem b255_52 {xs : Nat → Int32} {xl : Nat} {I J : w_I} {b : Bool} {Q : Option Value → w_I → w_I → Bool → Prop} {l1 l2 l3 s0 : Int} {u4 : Option Value} (k : ((-2147483648 ≤ l1 ∧ l1 < 2147483648) ∧ ((l1 < 0 → w_T xs xl 255 17 [some (.ref 104), some (w_i l3), some (w_i s0), some (w_i (l3 + 1)), some (w_i s0)] [] [] I J b Q) ∧ (¬ l1 < 0 → ((-2147483648 ≤ s0 ∧ s0 < 2147483648) ∧ (-2147483648 ≤ l2 ∧ l2 < 2147483648) ∧ ((l2 < s0 → w_T xs xl 255 17 [some (.ref 104), some (w_i l3), some (w_i s0), some (w_i (l3 + 1)), some (w_i s0)] [] [] I J b Q) ∧ (¬ l2 < s0 → w_T xs xl 255 17 [some (.ref 104), some (w_i l1), some (w_i l2), some (w_i (l3 + 1)), some (w_i s0)] [] [] I J b Q))))))) : w_T xs xl 255 52 [some (.ref 104), some (w_i l1), some (w_i l2), some (w_i l3), u4] [] [w_i s0] I J b Q := by
  refine w_istore (q := 54) (L' := [some (.ref 104), some (w_i l1), some (w_i l2), some (w_i l3), some (w_i s0)]) (M' := []) rfl rfl rfl rfl rfl ?_
  refine w_iload_n (q := 55) rfl rfl rfl ?_
  obtain ⟨h1, k⟩ := k
  refine w_zlt (t := 67) (q := 58) rfl rfl rfl h1 (fun c2 => ?_) (fun c2 => ?_)
  · replace k := k.1 c2
    refine w_iload_n (q := 68) rfl rfl rfl ?_
    refine w_istore_n (q := 69) (L' := [some (.ref 104), some (w_i l3), some (w_i l2), some (w_i l3), some (w_i s0)]) (M' := []) rfl rfl rfl rfl rfl ?_
    refine w_iload (q := 71) rfl rfl rfl ?_
    refine w_istore_n (q := 72) (L' := [some (.ref 104), some (w_i l3), some (w_i s0), some (w_i l3), some (w_i s0)]) (M' := []) rfl rfl rfl rfl rfl ?_
    refine w_iinc (q := 75) (L' := [some (.ref 104), some (w_i l3), some (w_i s0), some (w_i (l3 + 1)), some (w_i s0)]) (M' := []) rfl rfl rfl rfl rfl rfl ?_
    refine w_goto (t := 17) rfl rfl ?_
    exact k
  · replace k := k.2 c2
    refine w_iload (q := 60) rfl rfl rfl ?_
    refine w_iload_n (q := 61) rfl rfl rfl ?_
    obtain ⟨h3, h4, k⟩ := k
    refine w_cgt (t := 67) (q := 64) rfl rfl rfl h3 h4 (fun c5 => ?_) (fun c5 => ?_)
    · replace k := k.1 c5
      refine w_iload_n (q := 68) rfl rfl rfl ?_
      refine w_istore_n (q := 69) (L' := [some (.ref 104), some (w_i l3), some (w_i l2), some (w_i l3), some (w_i s0)]) (M' := []) rfl rfl rfl rfl rfl ?_
      refine w_iload (q := 71) rfl rfl rfl ?_
      refine w_istore_n (q := 72) (L' := [some (.ref 104), some (w_i l3), some (w_i s0), some (w_i l3), some (w_i s0)]) (M' := []) rfl rfl rfl rfl rfl ?_
      refine w_iinc (q := 75) (L' := [some (.ref 104), some (w_i l3), some (w_i s0), some (w_i (l3 + 1)), some (w_i s0)]) (M' := []) rfl rfl rfl rfl rfl rfl ?_
      refine w_goto (t := 17) rfl rfl ?_
      exact k
    · replace k := k.2 c5
      refine w_goto (t := 72) rfl rfl ?_
      refine w_iinc (q := 75) (L' := [some (.ref 104), some (w_i l1), some (w_i l2), some (w_i (l3 + 1)), some (w_i s0)]) (M' := []) rfl rfl rfl rfl rfl rfl ?_
      refine w_goto (t := 17) rfl rfl ?_
      exact k
theorem e256 {xs : Nat → Int32} {xl : Nat} {I J : w_I} {b : Bool} {Q : Option Value → w_I → w_I → Bool → Prop} (t : w_T xs xl 256 0 [some (.ref 104), none, none] [] [] I J b Q) : w_C xs xl 256 [.ref 104] I J b Q := w_en rfl t
theorem b256_0 {xs : Nat → Int32} {xl : Nat} {I J : w_I} {b : Bool} {Q : Option Value → w_I → w_I → Bool → Prop} (k : w_T xs xl 256 7 [some (.ref 104), some (w_i 0), none] [] [] (w_U I 104 46 0) J b Q) : w_T xs xl 256 0 [some (.ref 104), none, none] [] [] I J b Q := by
  refine w_aload_n (q := 1) rfl rfl rfl ?_
  refine w_iconst (q := 2) rfl rfl ?_
  refine w_pfi (q := 5) (k' := 46) rfl rfl rfl rfl ?_
  refine w_iconst (q := 6) rfl rfl ?_
  refine w_istore_n (q := 7) (L' := [some (.ref 104), some (w_i 0), none]) (M' := []) rfl rfl rfl rfl rfl ?_
  exact k
theorem b256_7 {xs : Nat → Int32} {xl : Nat} {I J : w_I} {b : Bool} {Q : Option Value → w_I → w_I → Bool → Prop} {l1 : Int} {u2 : Option Value} (k : ((-2147483648 ≤ l1 ∧ l1 < 2147483648) ∧ (-2147483648 ≤ I 110 0 ∧ I 110 0 < 2147483648) ∧ ((I 110 0 ≤ l1 → w_T xs xl 256 84 [some (.ref 104), some (w_i 0), u2] [] [] I J b Q) ∧ (¬ I 110 0 ≤ l1 → w_C xs xl 214 [.ref 104, w_i l1] I J b (fun v Ic Jc bc => w_T xs xl 256 22 [some (.ref 104), some (w_i l1), u2] [] (w_pv v []) Ic Jc bc Q))))) : w_T xs xl 256 7 [some (.ref 104), some (w_i l1), u2] [] [] I J b Q := by
  refine w_iload_n (q := 8) rfl rfl rfl ?_
  refine w_aload_n (q := 9) rfl rfl rfl ?_
  refine w_gfr (q := 12) rfl rfl rfl rfl (j := 110) rfl ?_
  refine w_iconst (q := 13) rfl rfl ?_
  refine w_iald (q := 14) (n := 2800) (v := I 110 0) rfl rfl rfl rfl rfl rfl (by decide) ?_
  obtain ⟨h1, h2, k⟩ := k
  refine w_cge (t := 82) (q := 17) rfl rfl rfl h1 h2 (fun c3 => ?_) (fun c3 => ?_)
  · replace k := k.1 c3
    refine w_iconst (q := 83) rfl rfl ?_
    refine w_istore_n (q := 84) (L' := [some (.ref 104), some (w_i 0), u2]) (M' := []) rfl rfl rfl rfl rfl ?_
    exact k
  · replace k := k.2 c3
    refine w_aload_n (q := 18) rfl rfl rfl ?_
    refine w_iload_n (q := 19) rfl rfl rfl ?_
    refine w_callv (q := 22) rfl rfl rfl rfl rfl rfl ?_
    exact k
theorem b256_84 {xs : Nat → Int32} {xl : Nat} {I J : w_I} {b : Bool} {Q : Option Value → w_I → w_I → Bool → Prop} {l1 : Int} {u2 : Option Value} (k : ((-2147483648 ≤ l1 ∧ l1 < 2147483648) ∧ (-2147483648 ≤ I 104 46 ∧ I 104 46 < 2147483648) ∧ ((I 104 46 ≤ l1 → Q none I J b) ∧ (¬ I 104 46 ≤ l1 → w_T xs xl 256 94 [some (.ref 104), some (w_i l1), some (w_i l1)] [] [] I J b Q)))) : w_T xs xl 256 84 [some (.ref 104), some (w_i l1), u2] [] [] I J b Q := by
  refine w_iload_n (q := 85) rfl rfl rfl ?_
  refine w_aload_n (q := 86) rfl rfl rfl ?_
  refine w_gfi (q := 89) (k' := 46) (v := I 104 46) rfl rfl rfl rfl rfl rfl rfl ?_
  obtain ⟨h1, h2, k⟩ := k
  refine w_cge (t := 153) (q := 92) rfl rfl rfl h1 h2 (fun c3 => ?_) (fun c3 => ?_)
  · replace k := k.1 c3
    exact w_vret rfl k
  · replace k := k.2 c3
    refine w_iload_n (q := 93) rfl rfl rfl ?_
    refine w_istore_n (q := 94) (L' := [some (.ref 104), some (w_i l1), some (w_i l1)]) (M' := []) rfl rfl rfl rfl rfl ?_
    exact k
theorem b256_22 {xs : Nat → Int32} {xl : Nat} {I J : w_I} {b : Bool} {Q : Option Value → w_I → w_I → Bool → Prop} {l1 s0 : Int} {u2 : Option Value} (k : ((0 ≤ 20 + l1 ∧ 20 + l1 < 2800) ∧ ((-2147483648 ≤ I 110 (20 + l1) ∧ I 110 (20 + l1) < 2147483648) ∧ ((I 110 (20 + l1) = 0 → w_T xs xl 256 7 [some (.ref 104), some (w_i (l1 + 1)), some (w_i s0)] [] [] I J b Q) ∧ (¬ I 110 (20 + l1) = 0 → ((-2147483648 ≤ s0 ∧ s0 < 2147483648) ∧ ((0 ≤ s0 → ((0 ≤ I 104 46 ∧ I 104 46 < 24) ∧ w_C xs xl 218 [.ref 104, w_i s0] (w_U I 134 (I 104 46) l1) J b (fun v Ic Jc bc => w_T xs xl 256 65 [some (.ref 104), some (w_i l1), some (w_i s0)] [] (w_pv v [w_i (I 104 46), .ref 135]) Ic Jc bc Q))) ∧ (¬ 0 ≤ s0 → w_T xs xl 256 7 [some (.ref 104), some (w_i (l1 + 1)), some (w_i s0)] [] [] I J b Q)))))))) : w_T xs xl 256 22 [some (.ref 104), some (w_i l1), u2] [] [w_i s0] I J b Q := by
  refine w_istore_n (q := 23) (L' := [some (.ref 104), some (w_i l1), some (w_i s0)]) (M' := []) rfl rfl rfl rfl rfl ?_
  refine w_aload_n (q := 24) rfl rfl rfl ?_
  refine w_gfr (q := 27) rfl rfl rfl rfl (j := 110) rfl ?_
  refine w_bipush (q := 29) rfl rfl rfl ?_
  refine w_iload_n (q := 30) rfl rfl rfl ?_
  refine w_iadd (q := 31) rfl rfl ?_
  obtain ⟨h1, k⟩ := k
  refine w_iald (q := 32) (n := 2800) (v := I 110 (20 + l1)) rfl rfl rfl rfl rfl rfl h1 ?_
  obtain ⟨h2, k⟩ := k
  refine w_zeq (t := 76) (q := 35) rfl rfl rfl h2 (fun c3 => ?_) (fun c3 => ?_)
  · replace k := k.1 c3
    refine w_iinc (q := 79) (L' := [some (.ref 104), some (w_i (l1 + 1)), some (w_i s0)]) (M' := []) rfl rfl rfl rfl rfl rfl ?_
    refine w_goto (t := 7) rfl rfl ?_
    exact k
  · replace k := k.2 c3
    refine w_iload_n (q := 36) rfl rfl rfl ?_
    obtain ⟨h4, k⟩ := k
    refine w_zge (t := 42) (q := 39) rfl rfl rfl h4 (fun c5 => ?_) (fun c5 => ?_)
    · replace k := k.1 c5
      refine w_aload_n (q := 43) rfl rfl rfl ?_
      refine w_gfr (q := 46) rfl rfl rfl rfl (j := 134) rfl ?_
      refine w_aload_n (q := 47) rfl rfl rfl ?_
      refine w_gfi (q := 50) (k' := 46) (v := I 104 46) rfl rfl rfl rfl rfl rfl rfl ?_
      refine w_iload_n (q := 51) rfl rfl rfl ?_
      obtain ⟨h6, k⟩ := k
      refine w_iast (q := 52) (n := 24) rfl rfl rfl rfl rfl h6 ?_
      refine w_aload_n (q := 53) rfl rfl rfl ?_
      refine w_gfr (q := 56) rfl rfl rfl rfl (j := 135) rfl ?_
      refine w_aload_n (q := 57) rfl rfl rfl ?_
      refine w_gfi (q := 60) (k' := 46) (v := I 104 46) rfl rfl rfl rfl rfl rfl rfl ?_
      refine w_aload_n (q := 61) rfl rfl rfl ?_
      refine w_iload_n (q := 62) rfl rfl rfl ?_
      refine w_callv (q := 65) rfl rfl rfl rfl rfl rfl ?_
      exact k
    · replace k := k.2 c5
      refine w_goto (t := 76) rfl rfl ?_
      refine w_iinc (q := 79) (L' := [some (.ref 104), some (w_i (l1 + 1)), some (w_i s0)]) (M' := []) rfl rfl rfl rfl rfl rfl ?_
      refine w_goto (t := 7) rfl rfl ?_
      exact k
theorem b256_94 {xs : Nat → Int32} {xl : Nat} {I J : w_I} {b : Bool} {Q : Option Value → w_I → w_I → Bool → Prop} {l1 l2 : Int} (k : ((-2147483648 ≤ l2 ∧ l2 < 2147483648) ∧ ((l2 ≤ 0 → ((0 ≤ l2 ∧ l2 < 24) ∧ w_T xs xl 256 84 [some (.ref 104), some (w_i (l1 + 1)), some (w_i l2)] [] [] (w_U I 136 l2 l1) J b Q)) ∧ (¬ l2 ≤ 0 → ((0 ≤ l2 - 1 ∧ l2 - 1 < 24) ∧ ((0 ≤ I 136 (l2 - 1) ∧ I 136 (l2 - 1) < 24) ∧ ((0 ≤ l1 ∧ l1 < 24) ∧ ((-2147483648 ≤ I 135 (I 136 (l2 - 1)) ∧ I 135 (I 136 (l2 - 1)) < 2147483648) ∧ (-2147483648 ≤ I 135 l1 ∧ I 135 l1 < 2147483648) ∧ ((I 135 (I 136 (l2 - 1)) ≤ I 135 l1 → ((0 ≤ l2 ∧ l2 < 24) ∧ w_T xs xl 256 84 [some (.ref 104), some (w_i (l1 + 1)), some (w_i l2)] [] [] (w_U I 136 l2 l1) J b Q)) ∧ (¬ I 135 (I 136 (l2 - 1)) ≤ I 135 l1 → ((0 ≤ l2 ∧ l2 < 24) ∧ w_T xs xl 256 94 [some (.ref 104), some (w_i l1), some (w_i (l2 + (-1)))] [] [] (w_U I 136 l2 (I 136 (l2 - 1))) J b Q))))))))))) : w_T xs xl 256 94 [some (.ref 104), some (w_i l1), some (w_i l2)] [] [] I J b Q := by
  refine w_iload_n (q := 95) rfl rfl rfl ?_
  obtain ⟨h1, k⟩ := k
  refine w_zle (t := 140) (q := 98) rfl rfl rfl h1 (fun c2 => ?_) (fun c2 => ?_)
  · replace k := k.1 c2
    refine w_aload_n (q := 141) rfl rfl rfl ?_
    refine w_gfr (q := 144) rfl rfl rfl rfl (j := 136) rfl ?_
    refine w_iload_n (q := 145) rfl rfl rfl ?_
    refine w_iload_n (q := 146) rfl rfl rfl ?_
    obtain ⟨h3, k⟩ := k
    refine w_iast (q := 147) (n := 24) rfl rfl rfl rfl rfl h3 ?_
    refine w_iinc (q := 150) (L' := [some (.ref 104), some (w_i (l1 + 1)), some (w_i l2)]) (M' := []) rfl rfl rfl rfl rfl rfl ?_
    refine w_goto (t := 84) rfl rfl ?_
    exact k
  · replace k := k.2 c2
    refine w_aload_n (q := 99) rfl rfl rfl ?_
    refine w_gfr (q := 102) rfl rfl rfl rfl (j := 135) rfl ?_
    refine w_aload_n (q := 103) rfl rfl rfl ?_
    refine w_gfr (q := 106) rfl rfl rfl rfl (j := 136) rfl ?_
    refine w_iload_n (q := 107) rfl rfl rfl ?_
    refine w_iconst (q := 108) rfl rfl ?_
    refine w_isub (q := 109) rfl rfl ?_
    obtain ⟨h4, k⟩ := k
    refine w_iald (q := 110) (n := 24) (v := I 136 (l2 - 1)) rfl rfl rfl rfl rfl rfl h4 ?_
    obtain ⟨h5, k⟩ := k
    refine w_iald (q := 111) (n := 24) (v := I 135 (I 136 (l2 - 1))) rfl rfl rfl rfl rfl rfl h5 ?_
    refine w_aload_n (q := 112) rfl rfl rfl ?_
    refine w_gfr (q := 115) rfl rfl rfl rfl (j := 135) rfl ?_
    refine w_iload_n (q := 116) rfl rfl rfl ?_
    obtain ⟨h6, k⟩ := k
    refine w_iald (q := 117) (n := 24) (v := I 135 l1) rfl rfl rfl rfl rfl rfl h6 ?_
    obtain ⟨h7, h8, k⟩ := k
    refine w_cle (t := 140) (q := 120) rfl rfl rfl h7 h8 (fun c9 => ?_) (fun c9 => ?_)
    · replace k := k.1 c9
      refine w_aload_n (q := 141) rfl rfl rfl ?_
      refine w_gfr (q := 144) rfl rfl rfl rfl (j := 136) rfl ?_
      refine w_iload_n (q := 145) rfl rfl rfl ?_
      refine w_iload_n (q := 146) rfl rfl rfl ?_
      obtain ⟨h10, k⟩ := k
      refine w_iast (q := 147) (n := 24) rfl rfl rfl rfl rfl h10 ?_
      refine w_iinc (q := 150) (L' := [some (.ref 104), some (w_i (l1 + 1)), some (w_i l2)]) (M' := []) rfl rfl rfl rfl rfl rfl ?_
      refine w_goto (t := 84) rfl rfl ?_
      exact k
    · replace k := k.2 c9
      refine w_aload_n (q := 121) rfl rfl rfl ?_
      refine w_gfr (q := 124) rfl rfl rfl rfl (j := 136) rfl ?_
      refine w_iload_n (q := 125) rfl rfl rfl ?_
      refine w_aload_n (q := 126) rfl rfl rfl ?_
      refine w_gfr (q := 129) rfl rfl rfl rfl (j := 136) rfl ?_
      refine w_iload_n (q := 130) rfl rfl rfl ?_
      refine w_iconst (q := 131) rfl rfl ?_
      refine w_isub (q := 132) rfl rfl ?_
      refine w_iald (q := 133) (n := 24) (v := I 136 (l2 - 1)) rfl rfl rfl rfl rfl rfl h4 ?_
      obtain ⟨h11, k⟩ := k
      refine w_iast (q := 134) (n := 24) rfl rfl rfl rfl rfl h11 ?_
      refine w_iinc (q := 137) (L' := [some (.ref 104), some (w_i l1), some (w_i (l2 + (-1)))]) (M' := []) rfl rfl rfl rfl rfl rfl ?_
      refine w_goto (t := 94) rfl rfl ?_
      exact k
theorem b256_65 {xs : Nat → Int32} {xl : Nat} {I J : w_I} {b : Bool} {Q : Option Value → w_I → w_I → Bool → Prop} {l1 s1 s2 : Int} {u2 : Option Value} (k : ((0 ≤ s1 ∧ s1 < 24) ∧ w_T xs xl 256 7 [some (.ref 104), some (w_i (l1 + 1)), u2] [] [] (w_U (w_U I 135 s1 s2) 104 46 (I 104 46 + 1)) J b Q)) : w_T xs xl 256 65 [some (.ref 104), some (w_i l1), u2] [] [w_i s2, w_i s1, .ref 135] I J b Q := by
  obtain ⟨h1, k⟩ := k
  refine w_iast (q := 66) (n := 24) rfl rfl rfl rfl rfl h1 ?_
  refine w_aload_n (q := 67) rfl rfl rfl ?_
  refine w_dup (q := 68) rfl rfl rfl ?_
  refine w_gfi (q := 71) (k' := 46) (v := I 104 46) rfl rfl rfl rfl rfl rfl rfl ?_
  refine w_iconst (q := 72) rfl rfl ?_
  refine w_iadd (q := 73) rfl rfl ?_
  refine w_pfi (q := 76) (k' := 46) rfl rfl rfl rfl ?_
  refine w_iinc (q := 79) (L' := [some (.ref 104), some (w_i (l1 + 1)), u2]) (M' := []) rfl rfl rfl rfl rfl rfl ?_
  refine w_goto (t := 7) rfl rfl ?_
  exact k
end
