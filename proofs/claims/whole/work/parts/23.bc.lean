section
theorem e77 {xs : Nat → Int32} {xl : Nat} {I J : w_I} {b : Bool} {Q : Option Value → w_I → w_I → Bool → Prop} (t : w_T xs xl 77 0 [some (.ref 8)] [] [] I J b Q) : w_C xs xl 77 [.ref 8] I J b Q := w_en rfl t
theorem b77_0 {xs : Nat → Int32} {xl : Nat} {I J : w_I} {b : Bool} {Q : Option Value → w_I → w_I → Bool → Prop} (k : ((-2147483648 ≤ I 8 9 ∧ I 8 9 < 2147483648) ∧ ((I 8 9 < 400 → Q (some (w_i 1)) (w_U I 8 9 (I 8 9 + 1)) J b) ∧ (¬ I 8 9 < 400 → w_C xs xl 76 [.ref 8, w_i 2] I J b (fun v Ic Jc bc => w_T xs xl 77 15 [some (.ref 8)] [] (w_pv v []) Ic Jc bc Q))))) : w_T xs xl 77 0 [some (.ref 8)] [] [] I J b Q := by
  refine w_aload_n (q := 1) rfl rfl rfl ?_
  refine w_gfi (q := 4) (k' := 9) (v := I 8 9) rfl rfl rfl rfl rfl rfl rfl ?_
  refine w_sipush (q := 7) rfl rfl rfl ?_
  obtain ⟨h1, k⟩ := k
  refine w_clt (t := 16) (q := 10) rfl rfl rfl h1 (by decide) (fun c2 => ?_) (fun c2 => ?_)
  · replace k := k.1 c2
    refine w_aload_n (q := 17) rfl rfl rfl ?_
    refine w_dup (q := 18) rfl rfl rfl ?_
    refine w_gfi (q := 21) (k' := 9) (v := I 8 9) rfl rfl rfl rfl rfl rfl rfl ?_
    refine w_iconst (q := 22) rfl rfl ?_
    refine w_iadd (q := 23) rfl rfl ?_
    refine w_pfi (q := 26) (k' := 9) rfl rfl rfl rfl ?_
    refine w_iconst (q := 27) rfl rfl ?_
    refine w_iret rfl rfl k
  · replace k := k.2 c2
    refine w_aload_n (q := 11) rfl rfl rfl ?_
    refine w_iconst (q := 12) rfl rfl ?_
    refine w_callv (q := 15) rfl rfl rfl rfl rfl rfl ?_
    exact k
theorem b77_15 {xs : Nat → Int32} {xl : Nat} {I J : w_I} {b : Bool} {Q : Option Value → w_I → w_I → Bool → Prop} {s0 : Int} (k : ((s0 = 0 ∨ s0 = 1) ∧ Q (some (w_i s0)) I J b)) : w_T xs xl 77 15 [some (.ref 8)] [] [w_i s0] I J b Q := by
  obtain ⟨h1, k⟩ := k
  refine w_iret rfl (w_nz1 h1) k
theorem e78 {xs : Nat → Int32} {xl : Nat} {I J : w_I} {b : Bool} {Q : Option Value → w_I → w_I → Bool → Prop} {a1 : Int} (t : w_T xs xl 78 0 [some (.ref 8), some (w_i a1)] [] [] I J b Q) : w_C xs xl 78 [.ref 8, w_i a1] I J b Q := w_en rfl t
theorem b78_0 {xs : Nat → Int32} {xl : Nat} {I J : w_I} {b : Bool} {Q : Option Value → w_I → w_I → Bool → Prop} {a1 : Int} (k : ((0 ≤ I 8 9 ∧ I 8 9 < 402) ∧ ((-2147483648 ≤ I 15 (I 8 9) ∧ I 15 (I 8 9) < 2147483648) ∧ (-2147483648 ≤ a1 ∧ a1 < 2147483648) ∧ ((¬ I 15 (I 8 9) = a1 → w_C xs xl 76 [.ref 8, w_i 1] I J b (fun v Ic Jc bc => w_T xs xl 78 25 [some (.ref 8), some (w_i a1)] [] (w_pv v []) Ic Jc bc Q)) ∧ (I 15 (I 8 9) = a1 → w_C xs xl 77 [.ref 8] I J b (fun v Ic Jc bc => w_T xs xl 78 17 [some (.ref 8), some (w_i a1)] [] (w_pv v []) Ic Jc bc Q)))))) : w_T xs xl 78 0 [some (.ref 8), some (w_i a1)] [] [] I J b Q := by
  refine w_aload_n (q := 1) rfl rfl rfl ?_
  refine w_gfr (q := 4) rfl rfl rfl rfl (j := 15) rfl ?_
  refine w_aload_n (q := 5) rfl rfl rfl ?_
  refine w_gfi (q := 8) (k' := 9) (v := I 8 9) rfl rfl rfl rfl rfl rfl rfl ?_
  obtain ⟨h1, k⟩ := k
  refine w_iald (q := 9) (n := 402) (v := I 15 (I 8 9)) rfl rfl rfl rfl rfl rfl h1 ?_
  refine w_iload_n (q := 10) rfl rfl rfl ?_
  obtain ⟨h2, h3, k⟩ := k
  refine w_cne (t := 20) (q := 13) rfl rfl rfl h2 h3 (fun c4 => ?_) (fun c4 => ?_)
  · replace k := k.1 c4
    refine w_aload_n (q := 21) rfl rfl rfl ?_
    refine w_iconst (q := 22) rfl rfl ?_
    refine w_callv (q := 25) rfl rfl rfl rfl rfl rfl ?_
    exact k
  · replace k := k.2 c4
    refine w_aload_n (q := 14) rfl rfl rfl ?_
    refine w_callv (q := 17) rfl rfl rfl rfl rfl rfl ?_
    exact k
theorem b78_25 {xs : Nat → Int32} {xl : Nat} {I J : w_I} {b : Bool} {Q : Option Value → w_I → w_I → Bool → Prop} {u1 : Option Value} {s0 : Int} (k : ((s0 = 0 ∨ s0 = 1) ∧ Q (some (w_i s0)) I J b)) : w_T xs xl 78 25 [some (.ref 8), u1] [] [w_i s0] I J b Q := by
  obtain ⟨h1, k⟩ := k
  refine w_iret rfl (w_nz1 h1) k
theorem b78_17 {xs : Nat → Int32} {xl : Nat} {I J : w_I} {b : Bool} {Q : Option Value → w_I → w_I → Bool → Prop} {u1 : Option Value} {s0 : Int} (k : ((s0 = 0 ∨ s0 = 1) ∧ Q (some (w_i s0)) I J b)) : w_T xs xl 78 17 [some (.ref 8), u1] [] [w_i s0] I J b Q := by
  refine w_goto (t := 25) rfl rfl ?_
  obtain ⟨h1, k⟩ := k
  refine w_iret rfl (w_nz1 h1) k
theorem e79 {xs : Nat → Int32} {xl : Nat} {I J : w_I} {b : Bool} {Q : Option Value → w_I → w_I → Bool → Prop} {a1 a2 : Int} (t : w_T xs xl 79 0 [some (.ref 8), some (w_i a1), some (w_i a2)] [] [] I J b Q) : w_C xs xl 79 [.ref 8, w_i a1, w_i a2] I J b Q := w_en rfl t
theorem b79_0 {xs : Nat → Int32} {xl : Nat} {I J : w_I} {b : Bool} {Q : Option Value → w_I → w_I → Bool → Prop} {a1 a2 : Int} (k : ((-2147483648 ≤ I 8 12 ∧ I 8 12 < 2147483648) ∧ ((¬ I 8 12 = 0 → Q none I J b) ∧ (I 8 12 = 0 → Q none (w_U (w_U I 8 12 a1) 8 13 a2) J b)))) : w_T xs xl 79 0 [some (.ref 8), some (w_i a1), some (w_i a2)] [] [] I J b Q := by
  refine w_aload_n (q := 1) rfl rfl rfl ?_
  refine w_gfi (q := 4) (k' := 12) (v := I 8 12) rfl rfl rfl rfl rfl rfl rfl ?_
  obtain ⟨h1, k⟩ := k
  refine w_zne (t := 17) (q := 7) rfl rfl rfl h1 (fun c2 => ?_) (fun c2 => ?_)
  · replace k := k.1 c2
    exact w_vret rfl k
  · replace k := k.2 c2
    refine w_aload_n (q := 8) rfl rfl rfl ?_
    refine w_iload_n (q := 9) rfl rfl rfl ?_
    refine w_pfi (q := 12) (k' := 12) rfl rfl rfl rfl ?_
    refine w_aload_n (q := 13) rfl rfl rfl ?_
    refine w_iload_n (q := 14) rfl rfl rfl ?_
    refine w_pfi (q := 17) (k' := 13) rfl rfl rfl rfl ?_
    exact w_vret rfl k
theorem e80 {xs : Nat → Int32} {xl : Nat} {I J : w_I} {b : Bool} {Q : Option Value → w_I → w_I → Bool → Prop} {a1 a2 : Int} (t : w_T xs xl 80 0 [some (.ref 8), some (w_i a1), some (w_i a2)] [] [] I J b Q) : w_C xs xl 80 [.ref 8, w_i a1, w_i a2] I J b Q := w_en rfl t
theorem b80_0 {xs : Nat → Int32} {xl : Nat} {I J : w_I} {b : Bool} {Q : Option Value → w_I → w_I → Bool → Prop} {a1 a2 : Int} (k : ((0 ≤ I 8 9 ∧ I 8 9 < 402) ∧ ((-2147483648 ≤ I 15 (I 8 9) ∧ I 15 (I 8 9) < 2147483648) ∧ ((I 15 (I 8 9) = 3 → ((-2147483648 ≤ I 16 (I 8 9) ∧ I 16 (I 8 9) < 2147483648) ∧ (-2147483648 ≤ a1 ∧ a1 < 2147483648) ∧ ((I 16 (I 8 9) < a1 → w_C xs xl 79 [.ref 8, w_i 5, w_i (I 17 (I 8 9))] I J b (fun v Ic Jc bc => w_T xs xl 80 59 [some (.ref 8), some (w_i a1), some (w_i a2)] [] (w_pv v []) Ic Jc bc Q)) ∧ (¬ I 16 (I 8 9) < a1 → ((-2147483648 ≤ a2 ∧ a2 < 2147483648) ∧ ((I 16 (I 8 9) ≤ a2 → w_C xs xl 77 [.ref 8] I J b (fun v Ic Jc bc => w_T xs xl 80 63 [some (.ref 8), some (w_i a1), some (w_i a2)] [] (w_pv v []) Ic Jc bc Q)) ∧ (¬ I 16 (I 8 9) ≤ a2 → w_C xs xl 79 [.ref 8, w_i 5, w_i (I 17 (I 8 9))] I J b (fun v Ic Jc bc => w_T xs xl 80 59 [some (.ref 8), some (w_i a1), some (w_i a2)] [] (w_pv v []) Ic Jc bc Q)))))))) ∧ (¬ I 15 (I 8 9) = 3 → w_C xs xl 76 [.ref 8, w_i 1] I J b (fun v Ic Jc bc => w_T xs xl 80 18 [some (.ref 8), some (w_i a1), some (w_i a2)] [] (w_pv v []) Ic Jc bc Q)))))) : w_T xs xl 80 0 [some (.ref 8), some (w_i a1), some (w_i a2)] [] [] I J b Q := by
  refine w_aload_n (q := 1) rfl rfl rfl ?_
  refine w_gfr (q := 4) rfl rfl rfl rfl (j := 15) rfl ?_
  refine w_aload_n (q := 5) rfl rfl rfl ?_
  refine w_gfi (q := 8) (k' := 9) (v := I 8 9) rfl rfl rfl rfl rfl rfl rfl ?_
  obtain ⟨h1, k⟩ := k
  refine w_iald (q := 9) (n := 402) (v := I 15 (I 8 9)) rfl rfl rfl rfl rfl rfl h1 ?_
  refine w_iconst (q := 10) rfl rfl ?_
  obtain ⟨h2, k⟩ := k
  refine w_ceq (t := 19) (q := 13) rfl rfl rfl h2 (by decide) (fun c3 => ?_) (fun c3 => ?_)
  · replace k := k.1 c3
    refine w_aload_n (q := 20) rfl rfl rfl ?_
    refine w_gfr (q := 23) rfl rfl rfl rfl (j := 16) rfl ?_
    refine w_aload_n (q := 24) rfl rfl rfl ?_
    refine w_gfi (q := 27) (k' := 9) (v := I 8 9) rfl rfl rfl rfl rfl rfl rfl ?_
    refine w_iald (q := 28) (n := 402) (v := I 16 (I 8 9)) rfl rfl rfl rfl rfl rfl h1 ?_
    refine w_iload_n (q := 29) rfl rfl rfl ?_
    obtain ⟨h4, h5, k⟩ := k
    refine w_clt (t := 45) (q := 32) rfl rfl rfl h4 h5 (fun c6 => ?_) (fun c6 => ?_)
    · replace k := k.1 c6
      refine w_aload_n (q := 46) rfl rfl rfl ?_
      refine w_iconst (q := 47) rfl rfl ?_
      refine w_aload_n (q := 48) rfl rfl rfl ?_
      refine w_gfr (q := 51) rfl rfl rfl rfl (j := 17) rfl ?_
      refine w_aload_n (q := 52) rfl rfl rfl ?_
      refine w_gfi (q := 55) (k' := 9) (v := I 8 9) rfl rfl rfl rfl rfl rfl rfl ?_
      refine w_iald (q := 56) (n := 402) (v := I 17 (I 8 9)) rfl rfl rfl rfl rfl rfl h1 ?_
      refine w_callv (q := 59) rfl rfl rfl rfl rfl rfl ?_
      exact k
    · replace k := k.2 c6
      refine w_aload_n (q := 33) rfl rfl rfl ?_
      refine w_gfr (q := 36) rfl rfl rfl rfl (j := 16) rfl ?_
      refine w_aload_n (q := 37) rfl rfl rfl ?_
      refine w_gfi (q := 40) (k' := 9) (v := I 8 9) rfl rfl rfl rfl rfl rfl rfl ?_
      refine w_iald (q := 41) (n := 402) (v := I 16 (I 8 9)) rfl rfl rfl rfl rfl rfl h1 ?_
      refine w_iload_n (q := 42) rfl rfl rfl ?_
      obtain ⟨h7, k⟩ := k
      refine w_cle (t := 59) (q := 45) rfl rfl rfl h4 h7 (fun c8 => ?_) (fun c8 => ?_)
      · replace k := k.1 c8
        refine w_aload_n (q := 60) rfl rfl rfl ?_
        refine w_callv (q := 63) rfl rfl rfl rfl rfl rfl ?_
        exact k
      · replace k := k.2 c8
        refine w_aload_n (q := 46) rfl rfl rfl ?_
        refine w_iconst (q := 47) rfl rfl ?_
        refine w_aload_n (q := 48) rfl rfl rfl ?_
        refine w_gfr (q := 51) rfl rfl rfl rfl (j := 17) rfl ?_
        refine w_aload_n (q := 52) rfl rfl rfl ?_
        refine w_gfi (q := 55) (k' := 9) (v := I 8 9) rfl rfl rfl rfl rfl rfl rfl ?_
        refine w_iald (q := 56) (n := 402) (v := I 17 (I 8 9)) rfl rfl rfl rfl rfl rfl h1 ?_
        refine w_callv (q := 59) rfl rfl rfl rfl rfl rfl ?_
        exact k
  · replace k := k.2 c3
    refine w_aload_n (q := 14) rfl rfl rfl ?_
    refine w_iconst (q := 15) rfl rfl ?_
    refine w_callv (q := 18) rfl rfl rfl rfl rfl rfl ?_
    exact k
theorem b80_59 {xs : Nat → Int32} {xl : Nat} {I J : w_I} {b : Bool} {Q : Option Value → w_I → w_I → Bool → Prop} {u1 u2 : Option Value} (k : w_C xs xl 77 [.ref 8] I J b (fun v Ic Jc bc => w_T xs xl 80 63 [some (.ref 8), u1, u2] [] (w_pv v []) Ic Jc bc Q)) : w_T xs xl 80 59 [some (.ref 8), u1, u2] [] [] I J b Q := by
  refine w_aload_n (q := 60) rfl rfl rfl ?_
  refine w_callv (q := 63) rfl rfl rfl rfl rfl rfl ?_
  exact k
theorem b80_63 {xs : Nat → Int32} {xl : Nat} {I J : w_I} {b : Bool} {Q : Option Value → w_I → w_I → Bool → Prop} {u1 u2 : Option Value} {s0 : Int} (k : ((s0 = 0 ∨ s0 = 1) ∧ Q (some (w_i s0)) I J b)) : w_T xs xl 80 63 [some (.ref 8), u1, u2] [] [w_i s0] I J b Q := by
  obtain ⟨h1, k⟩ := k
  refine w_iret rfl (w_nz1 h1) k
theorem b80_18 {xs : Nat → Int32} {xl : Nat} {I J : w_I} {b : Bool} {Q : Option Value → w_I → w_I → Bool → Prop} {u1 u2 : Option Value} {s0 : Int} (k : ((s0 = 0 ∨ s0 = 1) ∧ Q (some (w_i s0)) I J b)) : w_T xs xl 80 18 [some (.ref 8), u1, u2] [] [w_i s0] I J b Q := by
  obtain ⟨h1, k⟩ := k
  refine w_iret rfl (w_nz1 h1) k
theorem e81 {xs : Nat → Int32} {xl : Nat} {I J : w_I} {b : Bool} {Q : Option Value → w_I → w_I → Bool → Prop} (t : w_T xs xl 81 0 [some (.ref 8), none] [] [] I J b Q) : w_C xs xl 81 [.ref 8] I J b Q := w_en rfl t
theorem b81_0 {xs : Nat → Int32} {xl : Nat} {I J : w_I} {b : Bool} {Q : Option Value → w_I → w_I → Bool → Prop} (k : ((0 ≤ I 8 9 ∧ I 8 9 < 402) ∧ ((-2147483648 ≤ I 15 (I 8 9) ∧ I 15 (I 8 9) < 2147483648) ∧ ((¬ I 15 (I 8 9) = 20 → ((I 15 (I 8 9) = 23 → w_C xs xl 85 [.ref 8, w_i (I 15 (I 8 9))] I J b (fun v Ic Jc bc => w_T xs xl 81 38 [some (.ref 8), some (w_i (I 15 (I 8 9)))] [] (w_pv v []) Ic Jc bc Q)) ∧ (¬ I 15 (I 8 9) = 23 → ((¬ I 15 (I 8 9) = 24 → ((¬ I 15 (I 8 9) = 25 → ((I 15 (I 8 9) < 28 → ((¬ I 15 (I 8 9) = 32 → w_C xs xl 76 [.ref 8, w_i 1] I J b (fun v Ic Jc bc => w_T xs xl 81 89 [some (.ref 8), some (w_i (I 15 (I 8 9)))] [] (w_pv v []) Ic Jc bc Q)) ∧ (I 15 (I 8 9) = 32 → w_C xs xl 88 [.ref 8] I J b (fun v Ic Jc bc => w_T xs xl 81 81 [some (.ref 8), some (w_i (I 15 (I 8 9)))] [] (w_pv v []) Ic Jc bc Q)))) ∧ (¬ I 15 (I 8 9) < 28 → ((31 < I 15 (I 8 9) → ((¬ I 15 (I 8 9) = 32 → w_C xs xl 76 [.ref 8, w_i 1] I J b (fun v Ic Jc bc => w_T xs xl 81 89 [some (.ref 8), some (w_i (I 15 (I 8 9)))] [] (w_pv v []) Ic Jc bc Q)) ∧ (I 15 (I 8 9) = 32 → w_C xs xl 88 [.ref 8] I J b (fun v Ic Jc bc => w_T xs xl 81 81 [some (.ref 8), some (w_i (I 15 (I 8 9)))] [] (w_pv v []) Ic Jc bc Q)))) ∧ (¬ 31 < I 15 (I 8 9) → w_C xs xl 87 [.ref 8, w_i (I 15 (I 8 9) - 28)] I J b (fun v Ic Jc bc => w_T xs xl 81 70 [some (.ref 8), some (w_i (I 15 (I 8 9)))] [] (w_pv v []) Ic Jc bc Q)))))) ∧ (I 15 (I 8 9) = 25 → w_C xs xl 86 [.ref 8] I J b (fun v Ic Jc bc => w_T xs xl 81 49 [some (.ref 8), some (w_i (I 15 (I 8 9)))] [] (w_pv v []) Ic Jc bc Q)))) ∧ (I 15 (I 8 9) = 24 → w_C xs xl 85 [.ref 8, w_i (I 15 (I 8 9))] I J b (fun v Ic Jc bc => w_T xs xl 81 38 [some (.ref 8), some (w_i (I 15 (I 8 9)))] [] (w_pv v []) Ic Jc bc Q)))))) ∧ (I 15 (I 8 9) = 20 → w_C xs xl 82 [.ref 8] I J b (fun v Ic Jc bc => w_T xs xl 81 20 [some (.ref 8), some (w_i (I 15 (I 8 9)))] [] (w_pv v []) Ic Jc bc Q)))))) : w_T xs xl 81 0 [some (.ref 8), none] [] [] I J b Q := by
  refine w_aload_n (q := 1) rfl rfl rfl ?_
  refine w_gfr (q := 4) rfl rfl rfl rfl (j := 15) rfl ?_
  refine w_aload_n (q := 5) rfl rfl rfl ?_
  refine w_gfi (q := 8) (k' := 9) (v := I 8 9) rfl rfl rfl rfl rfl rfl rfl ?_
  obtain ⟨h1, k⟩ := k
  refine w_iald (q := 9) (n := 402) (v := I 15 (I 8 9)) rfl rfl rfl rfl rfl rfl h1 ?_
  refine w_istore_n (q := 10) (L' := [some (.ref 8), some (w_i (I 15 (I 8 9)))]) (M' := []) rfl rfl rfl rfl rfl ?_
  refine w_iload_n (q := 11) rfl rfl rfl ?_
  refine w_bipush (q := 13) rfl rfl rfl ?_
  obtain ⟨h2, k⟩ := k
  refine w_cne (t := 21) (q := 16) rfl rfl rfl h2 (by decide) (fun c3 => ?_) (fun c3 => ?_)
  · replace k := k.1 c3
    refine w_iload_n (q := 22) rfl rfl rfl ?_
    refine w_bipush (q := 24) rfl rfl rfl ?_
    refine w_ceq (t := 33) (q := 27) rfl rfl rfl h2 (by decide) (fun c4 => ?_) (fun c4 => ?_)
    · replace k := k.1 c4
      refine w_aload_n (q := 34) rfl rfl rfl ?_
      refine w_iload_n (q := 35) rfl rfl rfl ?_
      refine w_callv (q := 38) rfl rfl rfl rfl rfl rfl ?_
      exact k
    · replace k := k.2 c4
      refine w_iload_n (q := 28) rfl rfl rfl ?_
      refine w_bipush (q := 30) rfl rfl rfl ?_
      refine w_cne (t := 39) (q := 33) rfl rfl rfl h2 (by decide) (fun c5 => ?_) (fun c5 => ?_)
      · replace k := k.1 c5
        refine w_iload_n (q := 40) rfl rfl rfl ?_
        refine w_bipush (q := 42) rfl rfl rfl ?_
        refine w_cne (t := 50) (q := 45) rfl rfl rfl h2 (by decide) (fun c6 => ?_) (fun c6 => ?_)
        · replace k := k.1 c6
          refine w_iload_n (q := 51) rfl rfl rfl ?_
          refine w_bipush (q := 53) rfl rfl rfl ?_
          refine w_clt (t := 71) (q := 56) rfl rfl rfl h2 (by decide) (fun c7 => ?_) (fun c7 => ?_)
          · replace k := k.1 c7
            refine w_iload_n (q := 72) rfl rfl rfl ?_
            refine w_bipush (q := 74) rfl rfl rfl ?_
            refine w_cne (t := 84) (q := 77) rfl rfl rfl h2 (by decide) (fun c8 => ?_) (fun c8 => ?_)
            · replace k := k.1 c8
              refine w_aload_n (q := 85) rfl rfl rfl ?_
              refine w_iconst (q := 86) rfl rfl ?_
              refine w_callv (q := 89) rfl rfl rfl rfl rfl rfl ?_
              exact k
            · replace k := k.2 c8
              refine w_aload_n (q := 78) rfl rfl rfl ?_
              refine w_callv (q := 81) rfl rfl rfl rfl rfl rfl ?_
              exact k
          · replace k := k.2 c7
            refine w_iload_n (q := 57) rfl rfl rfl ?_
            refine w_bipush (q := 59) rfl rfl rfl ?_
            refine w_cgt (t := 71) (q := 62) rfl rfl rfl h2 (by decide) (fun c9 => ?_) (fun c9 => ?_)
            · replace k := k.1 c9
              refine w_iload_n (q := 72) rfl rfl rfl ?_
              refine w_bipush (q := 74) rfl rfl rfl ?_
              refine w_cne (t := 84) (q := 77) rfl rfl rfl h2 (by decide) (fun c10 => ?_) (fun c10 => ?_)
              · replace k := k.1 c10
                refine w_aload_n (q := 85) rfl rfl rfl ?_
                refine w_iconst (q := 86) rfl rfl ?_
                refine w_callv (q := 89) rfl rfl rfl rfl rfl rfl ?_
                exact k
              · replace k := k.2 c10
                refine w_aload_n (q := 78) rfl rfl rfl ?_
                refine w_callv (q := 81) rfl rfl rfl rfl rfl rfl ?_
                exact k
            · replace k := k.2 c9
              refine w_aload_n (q := 63) rfl rfl rfl ?_
              refine w_iload_n (q := 64) rfl rfl rfl ?_
              refine w_bipush (q := 66) rfl rfl rfl ?_
              refine w_isub (q := 67) rfl rfl ?_
              refine w_callv (q := 70) rfl rfl rfl rfl rfl rfl ?_
              exact k
        · replace k := k.2 c6
          refine w_aload_n (q := 46) rfl rfl rfl ?_
          refine w_callv (q := 49) rfl rfl rfl rfl rfl rfl ?_
          exact k
      · replace k := k.2 c5
        refine w_aload_n (q := 34) rfl rfl rfl ?_
        refine w_iload_n (q := 35) rfl rfl rfl ?_
        refine w_callv (q := 38) rfl rfl rfl rfl rfl rfl ?_
        exact k
  · replace k := k.2 c3
    refine w_aload_n (q := 17) rfl rfl rfl ?_
    refine w_callv (q := 20) rfl rfl rfl rfl rfl rfl ?_
    exact k
theorem b81_38 {xs : Nat → Int32} {xl : Nat} {I J : w_I} {b : Bool} {Q : Option Value → w_I → w_I → Bool → Prop} {u1 : Option Value} {s0 : Int} (k : ((s0 = 0 ∨ s0 = 1) ∧ Q (some (w_i s0)) I J b)) : w_T xs xl 81 38 [some (.ref 8), u1] [] [w_i s0] I J b Q := by
  obtain ⟨h1, k⟩ := k
  refine w_iret rfl (w_nz1 h1) k
theorem b81_89 {xs : Nat → Int32} {xl : Nat} {I J : w_I} {b : Bool} {Q : Option Value → w_I → w_I → Bool → Prop} {u1 : Option Value} {s0 : Int} (k : ((s0 = 0 ∨ s0 = 1) ∧ Q (some (w_i s0)) I J b)) : w_T xs xl 81 89 [some (.ref 8), u1] [] [w_i s0] I J b Q := by
  obtain ⟨h1, k⟩ := k
  refine w_iret rfl (w_nz1 h1) k
theorem b81_81 {xs : Nat → Int32} {xl : Nat} {I J : w_I} {b : Bool} {Q : Option Value → w_I → w_I → Bool → Prop} {u1 : Option Value} {s0 : Int} (k : ((s0 = 0 ∨ s0 = 1) ∧ Q (some (w_i s0)) I J b)) : w_T xs xl 81 81 [some (.ref 8), u1] [] [w_i s0] I J b Q := by
  refine w_goto (t := 89) rfl rfl ?_
  obtain ⟨h1, k⟩ := k
  refine w_iret rfl (w_nz1 h1) k
theorem b81_70 {xs : Nat → Int32} {xl : Nat} {I J : w_I} {b : Bool} {Q : Option Value → w_I → w_I → Bool → Prop} {u1 : Option Value} {s0 : Int} (k : ((s0 = 0 ∨ s0 = 1) ∧ Q (some (w_i s0)) I J b)) : w_T xs xl 81 70 [some (.ref 8), u1] [] [w_i s0] I J b Q := by
  obtain ⟨h1, k⟩ := k
  refine w_iret rfl (w_nz1 h1) k
theorem b81_49 {xs : Nat → Int32} {xl : Nat} {I J : w_I} {b : Bool} {Q : Option Value → w_I → w_I → Bool → Prop} {u1 : Option Value} {s0 : Int} (k : ((s0 = 0 ∨ s0 = 1) ∧ Q (some (w_i s0)) I J b)) : w_T xs xl 81 49 [some (.ref 8), u1] [] [w_i s0] I J b Q := by
  obtain ⟨h1, k⟩ := k
  refine w_iret rfl (w_nz1 h1) k
theorem b81_20 {xs : Nat → Int32} {xl : Nat} {I J : w_I} {b : Bool} {Q : Option Value → w_I → w_I → Bool → Prop} {u1 : Option Value} {s0 : Int} (k : ((s0 = 0 ∨ s0 = 1) ∧ Q (some (w_i s0)) I J b)) : w_T xs xl 81 20 [some (.ref 8), u1] [] [w_i s0] I J b Q := by
  obtain ⟨h1, k⟩ := k
  refine w_iret rfl (w_nz1 h1) k
theorem e82 {xs : Nat → Int32} {xl : Nat} {I J : w_I} {b : Bool} {Q : Option Value → w_I → w_I → Bool → Prop} (t : w_T xs xl 82 0 [some (.ref 8), none, none] [] [] I J b Q) : w_C xs xl 82 [.ref 8] I J b Q := w_en rfl t
theorem b82_0 {xs : Nat → Int32} {xl : Nat} {I J : w_I} {b : Bool} {Q : Option Value → w_I → w_I → Bool → Prop} (k : ((-2147483648 ≤ I 9 5 ∧ I 9 5 < 2147483648) ∧ ((I 9 5 < 24 → w_C xs xl 77 [.ref 8] I J b (fun v Ic Jc bc => w_T xs xl 82 29 [some (.ref 8), some (w_i (I 8 9 + 1)), none] [] (w_pv v []) Ic Jc bc Q)) ∧ (¬ I 9 5 < 24 → w_C xs xl 76 [.ref 8, w_i 2] I J b (fun v Ic Jc bc => w_T xs xl 82 17 [some (.ref 8), none, none] [] (w_pv v []) Ic Jc bc Q))))) : w_T xs xl 82 0 [some (.ref 8), none, none] [] [] I J b Q := by
  refine w_aload_n (q := 1) rfl rfl rfl ?_
  refine w_gfr (q := 4) rfl rfl rfl rfl (j := 9) rfl ?_
  refine w_gfi (q := 7) (k' := 5) (v := I 9 5) rfl rfl rfl rfl rfl rfl rfl ?_
  refine w_bipush (q := 9) rfl rfl rfl ?_
  obtain ⟨h1, k⟩ := k
  refine w_clt (t := 18) (q := 12) rfl rfl rfl h1 (by decide) (fun c2 => ?_) (fun c2 => ?_)
  · replace k := k.1 c2
    refine w_aload_n (q := 19) rfl rfl rfl ?_
    refine w_gfi (q := 22) (k' := 9) (v := I 8 9) rfl rfl rfl rfl rfl rfl rfl ?_
    refine w_iconst (q := 23) rfl rfl ?_
    refine w_iadd (q := 24) rfl rfl ?_
    refine w_istore_n (q := 25) (L' := [some (.ref 8), some (w_i (I 8 9 + 1)), none]) (M' := []) rfl rfl rfl rfl rfl ?_
    refine w_aload_n (q := 26) rfl rfl rfl ?_
    refine w_callv (q := 29) rfl rfl rfl rfl rfl rfl ?_
    exact k
  · replace k := k.2 c2
    refine w_aload_n (q := 13) rfl rfl rfl ?_
    refine w_iconst (q := 14) rfl rfl ?_
    refine w_callv (q := 17) rfl rfl rfl rfl rfl rfl ?_
    exact k
theorem b82_29 {xs : Nat → Int32} {xl : Nat} {I J : w_I} {b : Bool} {Q : Option Value → w_I → w_I → Bool → Prop} {l1 s0 : Int} {u2 : Option Value} (k : ((-2147483648 ≤ s0 ∧ s0 < 2147483648) ∧ ((s0 = 0 → Q (some (w_i 0)) I J b) ∧ (¬ s0 = 0 → w_C xs xl 78 [.ref 8, w_i 2] I J b (fun v Ic Jc bc => w_T xs xl 82 37 [some (.ref 8), some (w_i l1), u2] [] (w_pv v []) Ic Jc bc Q))))) : w_T xs xl 82 29 [some (.ref 8), some (w_i l1), u2] [] [w_i s0] I J b Q := by
  obtain ⟨h1, k⟩ := k
  refine w_zeq (t := 40) (q := 32) rfl rfl rfl h1 (fun c2 => ?_) (fun c2 => ?_)
  · replace k := k.1 c2
    refine w_iconst (q := 41) rfl rfl ?_
    refine w_iret rfl rfl k
  · replace k := k.2 c2
    refine w_aload_n (q := 33) rfl rfl rfl ?_
    refine w_iconst (q := 34) rfl rfl ?_
    refine w_callv (q := 37) rfl rfl rfl rfl rfl rfl ?_
    exact k
theorem b82_17 {xs : Nat → Int32} {xl : Nat} {I J : w_I} {b : Bool} {Q : Option Value → w_I → w_I → Bool → Prop} {u1 u2 : Option Value} {s0 : Int} (k : ((s0 = 0 ∨ s0 = 1) ∧ Q (some (w_i s0)) I J b)) : w_T xs xl 82 17 [some (.ref 8), u1, u2] [] [w_i s0] I J b Q := by
  obtain ⟨h1, k⟩ := k
  refine w_iret rfl (w_nz1 h1) k
theorem b82_37 {xs : Nat → Int32} {xl : Nat} {I J : w_I} {b : Bool} {Q : Option Value → w_I → w_I → Bool → Prop} {l1 s0 : Int} {u2 : Option Value} (k : ((-2147483648 ≤ s0 ∧ s0 < 2147483648) ∧ ((¬ s0 = 0 → w_C xs xl 83 [.ref 8, w_i l1] I J b (fun v Ic Jc bc => w_T xs xl 82 47 [some (.ref 8), some (w_i l1), u2] [] (w_pv v []) Ic Jc bc Q)) ∧ (s0 = 0 → Q (some (w_i 0)) I J b)))) : w_T xs xl 82 37 [some (.ref 8), some (w_i l1), u2] [] [w_i s0] I J b Q := by
  obtain ⟨h1, k⟩ := k
  refine w_zne (t := 42) (q := 40) rfl rfl rfl h1 (fun c2 => ?_) (fun c2 => ?_)
  · replace k := k.1 c2
    refine w_aload_n (q := 43) rfl rfl rfl ?_
    refine w_iload_n (q := 44) rfl rfl rfl ?_
    refine w_callv (q := 47) rfl rfl rfl rfl rfl rfl ?_
    exact k
  · replace k := k.2 c2
    refine w_iconst (q := 41) rfl rfl ?_
    refine w_iret rfl rfl k
theorem b82_47 {xs : Nat → Int32} {xl : Nat} {I J : w_I} {b : Bool} {Q : Option Value → w_I → w_I → Bool → Prop} {u1 u2 : Option Value} (k : ((0 ≤ I 8 9 ∧ I 8 9 < 402) ∧ ((-2147483648 ≤ I 15 (I 8 9) ∧ I 15 (I 8 9) < 2147483648) ∧ ((¬ I 15 (I 8 9) = 21 → ((¬ I 15 (I 8 9) = 22 → ((0 ≤ I 9 5 ∧ I 9 5 < 24) ∧ w_C xs xl 80 [.ref 8, w_i 0, w_i 99] (w_U (w_U (w_U I 10 (I 9 5) 0) 11 (I 9 5) (I 16 (I 8 9))) 9 5 (I 9 5 + 1)) J b (fun v Ic Jc bc => w_T xs xl 82 158 [some (.ref 8), u1, some (w_i 0)] [] (w_pv v []) Ic Jc bc Q))) ∧ (I 15 (I 8 9) = 22 → w_C xs xl 77 [.ref 8] I J b (fun v Ic Jc bc => w_T xs xl 82 93 [some (.ref 8), u1, some (w_i 2)] [] (w_pv v []) Ic Jc bc Q)))) ∧ (I 15 (I 8 9) = 21 → w_C xs xl 77 [.ref 8] I J b (fun v Ic Jc bc => w_T xs xl 82 93 [some (.ref 8), u1, some (w_i 1)] [] (w_pv v []) Ic Jc bc Q)))))) : w_T xs xl 82 47 [some (.ref 8), u1, u2] [] [] I J b Q := by
  refine w_aload_n (q := 48) rfl rfl rfl ?_
  refine w_gfr (q := 51) rfl rfl rfl rfl (j := 15) rfl ?_
  refine w_aload_n (q := 52) rfl rfl rfl ?_
  refine w_gfi (q := 55) (k' := 9) (v := I 8 9) rfl rfl rfl rfl rfl rfl rfl ?_
  obtain ⟨h1, k⟩ := k
  refine w_iald (q := 56) (n := 402) (v := I 15 (I 8 9)) rfl rfl rfl rfl rfl rfl h1 ?_
  refine w_bipush (q := 58) rfl rfl rfl ?_
  obtain ⟨h2, k⟩ := k
  refine w_cne (t := 65) (q := 61) rfl rfl rfl h2 (by decide) (fun c3 => ?_) (fun c3 => ?_)
  · replace k := k.1 c3
    refine w_aload_n (q := 66) rfl rfl rfl ?_
    refine w_gfr (q := 69) rfl rfl rfl rfl (j := 15) rfl ?_
    refine w_aload_n (q := 70) rfl rfl rfl ?_
    refine w_gfi (q := 73) (k' := 9) (v := I 8 9) rfl rfl rfl rfl rfl rfl rfl ?_
    refine w_iald (q := 74) (n := 402) (v := I 15 (I 8 9)) rfl rfl rfl rfl rfl rfl h1 ?_
    refine w_bipush (q := 76) rfl rfl rfl ?_
    refine w_cne (t := 83) (q := 79) rfl rfl rfl h2 (by decide) (fun c4 => ?_) (fun c4 => ?_)
    · replace k := k.1 c4
      refine w_iconst (q := 84) rfl rfl ?_
      refine w_istore_n (q := 85) (L' := [some (.ref 8), u1, some (w_i 0)]) (M' := []) rfl rfl rfl rfl rfl ?_
      refine w_iload_n (q := 86) rfl rfl rfl ?_
      refine w_zeq (t := 98) (q := 89) rfl rfl rfl (by decide) (fun _ => ?_) (fun w => absurd w (by decide))
      refine w_aload_n (q := 99) rfl rfl rfl ?_
      refine w_gfr (q := 102) rfl rfl rfl rfl (j := 9) rfl ?_
      refine w_gfr (q := 105) rfl rfl rfl rfl (j := 10) rfl ?_
      refine w_aload_n (q := 106) rfl rfl rfl ?_
      refine w_gfr (q := 109) rfl rfl rfl rfl (j := 9) rfl ?_
      refine w_gfi (q := 112) (k' := 5) (v := I 9 5) rfl rfl rfl rfl rfl rfl rfl ?_
      refine w_iload_n (q := 113) rfl rfl rfl ?_
      obtain ⟨h5, k⟩ := k
      refine w_iast (q := 114) (n := 24) rfl rfl rfl rfl rfl h5 ?_
      refine w_aload_n (q := 115) rfl rfl rfl ?_
      refine w_gfr (q := 118) rfl rfl rfl rfl (j := 9) rfl ?_
      refine w_gfr (q := 121) rfl rfl rfl rfl (j := 11) rfl ?_
      refine w_aload_n (q := 122) rfl rfl rfl ?_
      refine w_gfr (q := 125) rfl rfl rfl rfl (j := 9) rfl ?_
      refine w_gfi (q := 128) (k' := 5) (v := I 9 5) rfl rfl rfl rfl rfl rfl rfl ?_
      refine w_aload_n (q := 129) rfl rfl rfl ?_
      refine w_gfr (q := 132) rfl rfl rfl rfl (j := 16) rfl ?_
      refine w_aload_n (q := 133) rfl rfl rfl ?_
      refine w_gfi (q := 136) (k' := 9) (v := I 8 9) rfl rfl rfl rfl rfl rfl rfl ?_
      refine w_iald (q := 137) (n := 402) (v := I 16 (I 8 9)) rfl rfl rfl rfl rfl rfl h1 ?_
      refine w_iast (q := 138) (n := 24) rfl rfl rfl rfl rfl h5 ?_
      refine w_aload_n (q := 139) rfl rfl rfl ?_
      refine w_gfr (q := 142) rfl rfl rfl rfl (j := 9) rfl ?_
      refine w_dup (q := 143) rfl rfl rfl ?_
      refine w_gfi (q := 146) (k' := 5) (v := I 9 5) rfl rfl rfl rfl rfl rfl rfl ?_
      refine w_iconst (q := 147) rfl rfl ?_
      refine w_iadd (q := 148) rfl rfl ?_
      refine w_pfi (q := 151) (k' := 5) rfl rfl rfl rfl ?_
      refine w_aload_n (q := 152) rfl rfl rfl ?_
      refine w_iconst (q := 153) rfl rfl ?_
      refine w_bipush (q := 155) rfl rfl rfl ?_
      refine w_callv (q := 158) rfl rfl rfl rfl rfl rfl ?_
      exact k
    · replace k := k.2 c4
      refine w_iconst (q := 80) rfl rfl ?_
      refine w_goto (t := 84) rfl rfl ?_
      refine w_istore_n (q := 85) (L' := [some (.ref 8), u1, some (w_i 2)]) (M' := []) rfl rfl rfl rfl rfl ?_
      refine w_iload_n (q := 86) rfl rfl rfl ?_
      refine w_zeq (t := 98) (q := 89) rfl rfl rfl (by decide) (fun w => absurd w (by decide)) (fun _ => ?_)
      refine w_aload_n (q := 90) rfl rfl rfl ?_
      refine w_callv (q := 93) rfl rfl rfl rfl rfl rfl ?_
      exact k
  · replace k := k.2 c3
    refine w_iconst (q := 62) rfl rfl ?_
    refine w_goto (t := 84) rfl rfl ?_
    refine w_istore_n (q := 85) (L' := [some (.ref 8), u1, some (w_i 1)]) (M' := []) rfl rfl rfl rfl rfl ?_
    refine w_iload_n (q := 86) rfl rfl rfl ?_
    refine w_zeq (t := 98) (q := 89) rfl rfl rfl (by decide) (fun w => absurd w (by decide)) (fun _ => ?_)
    refine w_aload_n (q := 90) rfl rfl rfl ?_
    refine w_callv (q := 93) rfl rfl rfl rfl rfl rfl ?_
    exact k
theorem b82_158 {xs : Nat → Int32} {xl : Nat} {I J : w_I} {b : Bool} {Q : Option Value → w_I → w_I → Bool → Prop} {u1 u2 : Option Value} {s0 : Int} (k : ((-2147483648 ≤ s0 ∧ s0 < 2147483648) ∧ ((s0 = 0 → Q (some (w_i 0)) I J b) ∧ (¬ s0 = 0 → w_C xs xl 78 [.ref 8, w_i 4] I J b (fun v Ic Jc bc => w_T xs xl 82 166 [some (.ref 8), u1, u2] [] (w_pv v []) Ic Jc bc Q))))) : w_T xs xl 82 158 [some (.ref 8), u1, u2] [] [w_i s0] I J b Q := by
  obtain ⟨h1, k⟩ := k
  refine w_zeq (t := 173) (q := 161) rfl rfl rfl h1 (fun c2 => ?_) (fun c2 => ?_)
  · replace k := k.1 c2
    refine w_iconst (q := 174) rfl rfl ?_
    refine w_iret rfl rfl k
  · replace k := k.2 c2
    refine w_aload_n (q := 162) rfl rfl rfl ?_
    refine w_iconst (q := 163) rfl rfl ?_
    refine w_callv (q := 166) rfl rfl rfl rfl rfl rfl ?_
    exact k
theorem b82_93 {xs : Nat → Int32} {xl : Nat} {I J : w_I} {b : Bool} {Q : Option Value → w_I → w_I → Bool → Prop} {u1 : Option Value} {l2 s0 : Int} (k : ((-2147483648 ≤ s0 ∧ s0 < 2147483648) ∧ ((¬ s0 = 0 → ((0 ≤ I 9 5 ∧ I 9 5 < 24) ∧ ((0 ≤ I 8 9 ∧ I 8 9 < 402) ∧ w_C xs xl 80 [.ref 8, w_i 0, w_i 99] (w_U (w_U (w_U I 10 (I 9 5) l2) 11 (I 9 5) (I 16 (I 8 9))) 9 5 (I 9 5 + 1)) J b (fun v Ic Jc bc => w_T xs xl 82 158 [some (.ref 8), u1, some (w_i l2)] [] (w_pv v []) Ic Jc bc Q)))) ∧ (s0 = 0 → Q (some (w_i 0)) I J b)))) : w_T xs xl 82 93 [some (.ref 8), u1, some (w_i l2)] [] [w_i s0] I J b Q := by
  obtain ⟨h1, k⟩ := k
  refine w_zne (t := 98) (q := 96) rfl rfl rfl h1 (fun c2 => ?_) (fun c2 => ?_)
  · replace k := k.1 c2
    refine w_aload_n (q := 99) rfl rfl rfl ?_
    refine w_gfr (q := 102) rfl rfl rfl rfl (j := 9) rfl ?_
    refine w_gfr (q := 105) rfl rfl rfl rfl (j := 10) rfl ?_
    refine w_aload_n (q := 106) rfl rfl rfl ?_
    refine w_gfr (q := 109) rfl rfl rfl rfl (j := 9) rfl ?_
    refine w_gfi (q := 112) (k' := 5) (v := I 9 5) rfl rfl rfl rfl rfl rfl rfl ?_
    refine w_iload_n (q := 113) rfl rfl rfl ?_
    obtain ⟨h3, k⟩ := k
    refine w_iast (q := 114) (n := 24) rfl rfl rfl rfl rfl h3 ?_
    refine w_aload_n (q := 115) rfl rfl rfl ?_
    refine w_gfr (q := 118) rfl rfl rfl rfl (j := 9) rfl ?_
    refine w_gfr (q := 121) rfl rfl rfl rfl (j := 11) rfl ?_
    refine w_aload_n (q := 122) rfl rfl rfl ?_
    refine w_gfr (q := 125) rfl rfl rfl rfl (j := 9) rfl ?_
    refine w_gfi (q := 128) (k' := 5) (v := I 9 5) rfl rfl rfl rfl rfl rfl rfl ?_
    refine w_aload_n (q := 129) rfl rfl rfl ?_
    refine w_gfr (q := 132) rfl rfl rfl rfl (j := 16) rfl ?_
    refine w_aload_n (q := 133) rfl rfl rfl ?_
    refine w_gfi (q := 136) (k' := 9) (v := I 8 9) rfl rfl rfl rfl rfl rfl rfl ?_
    obtain ⟨h4, k⟩ := k
    refine w_iald (q := 137) (n := 402) (v := I 16 (I 8 9)) rfl rfl rfl rfl rfl rfl h4 ?_
    refine w_iast (q := 138) (n := 24) rfl rfl rfl rfl rfl h3 ?_
    refine w_aload_n (q := 139) rfl rfl rfl ?_
    refine w_gfr (q := 142) rfl rfl rfl rfl (j := 9) rfl ?_
    refine w_dup (q := 143) rfl rfl rfl ?_
    refine w_gfi (q := 146) (k' := 5) (v := I 9 5) rfl rfl rfl rfl rfl rfl rfl ?_
    refine w_iconst (q := 147) rfl rfl ?_
    refine w_iadd (q := 148) rfl rfl ?_
    refine w_pfi (q := 151) (k' := 5) rfl rfl rfl rfl ?_
    refine w_aload_n (q := 152) rfl rfl rfl ?_
    refine w_iconst (q := 153) rfl rfl ?_
    refine w_bipush (q := 155) rfl rfl rfl ?_
    refine w_callv (q := 158) rfl rfl rfl rfl rfl rfl ?_
    exact k
  · replace k := k.2 c2
    refine w_iconst (q := 97) rfl rfl ?_
    refine w_iret rfl rfl k
theorem b82_166 {xs : Nat → Int32} {xl : Nat} {I J : w_I} {b : Bool} {Q : Option Value → w_I → w_I → Bool → Prop} {u1 u2 : Option Value} {s0 : Int} (k : ((-2147483648 ≤ s0 ∧ s0 < 2147483648) ∧ ((s0 = 0 → Q (some (w_i 0)) I J b) ∧ (¬ s0 = 0 → Q (some (w_i 1)) I J b)))) : w_T xs xl 82 166 [some (.ref 8), u1, u2] [] [w_i s0] I J b Q := by
  obtain ⟨h1, k⟩ := k
  refine w_zeq (t := 173) (q := 169) rfl rfl rfl h1 (fun c2 => ?_) (fun c2 => ?_)
  · replace k := k.1 c2
    refine w_iconst (q := 174) rfl rfl ?_
    refine w_iret rfl rfl k
  · replace k := k.2 c2
    refine w_iconst (q := 170) rfl rfl ?_
    refine w_goto (t := 174) rfl rfl ?_
    refine w_iret rfl rfl k
theorem e83 {xs : Nat → Int32} {xl : Nat} {I J : w_I} {b : Bool} {Q : Option Value → w_I → w_I → Bool → Prop} {a1 : Int} (t : w_T xs xl 83 0 [some (.ref 8), some (w_i a1), none] [] [] I J b Q) : w_C xs xl 83 [.ref 8, w_i a1] I J b Q := w_en rfl t
theorem b83_0 {xs : Nat → Int32} {xl : Nat} {I J : w_I} {b : Bool} {Q : Option Value → w_I → w_I → Bool → Prop} {a1 : Int} (k : w_T xs xl 83 2 [some (.ref 8), some (w_i a1), some (w_i 0)] [] [] I J b Q) : w_T xs xl 83 0 [some (.ref 8), some (w_i a1), none] [] [] I J b Q := by
  refine w_iconst (q := 1) rfl rfl ?_
  refine w_istore_n (q := 2) (L' := [some (.ref 8), some (w_i a1), some (w_i 0)]) (M' := []) rfl rfl rfl rfl rfl ?_
  exact k
theorem b83_2 {xs : Nat → Int32} {xl : Nat} {I J : w_I} {b : Bool} {Q : Option Value → w_I → w_I → Bool → Prop} {l1 l2 : Int} (k : ((-2147483648 ≤ l2 ∧ l2 < 2147483648) ∧ (-2147483648 ≤ I 9 5 ∧ I 9 5 < 2147483648) ∧ ((I 9 5 ≤ l2 → ((0 ≤ I 9 5 ∧ I 9 5 < 24) ∧ Q none (w_U I 18 (I 9 5) l1) J b)) ∧ (¬ I 9 5 ≤ l2 → ((0 ≤ l2 ∧ l2 < 24) ∧ w_C xs xl 84 [.ref 8, w_i (I 18 l2), w_i l1] I J b (fun v Ic Jc bc => w_T xs xl 83 24 [some (.ref 8), some (w_i l1), some (w_i l2)] [] (w_pv v []) Ic Jc bc Q)))))) : w_T xs xl 83 2 [some (.ref 8), some (w_i l1), some (w_i l2)] [] [] I J b Q := by
  refine w_iload_n (q := 3) rfl rfl rfl ?_
  refine w_aload_n (q := 4) rfl rfl rfl ?_
  refine w_gfr (q := 7) rfl rfl rfl rfl (j := 9) rfl ?_
  refine w_gfi (q := 10) (k' := 5) (v := I 9 5) rfl rfl rfl rfl rfl rfl rfl ?_
  obtain ⟨h1, h2, k⟩ := k
  refine w_cge (t := 44) (q := 13) rfl rfl rfl h1 h2 (fun c3 => ?_) (fun c3 => ?_)
  · replace k := k.1 c3
    refine w_aload_n (q := 45) rfl rfl rfl ?_
    refine w_gfr (q := 48) rfl rfl rfl rfl (j := 18) rfl ?_
    refine w_aload_n (q := 49) rfl rfl rfl ?_
    refine w_gfr (q := 52) rfl rfl rfl rfl (j := 9) rfl ?_
    refine w_gfi (q := 55) (k' := 5) (v := I 9 5) rfl rfl rfl rfl rfl rfl rfl ?_
    refine w_iload_n (q := 56) rfl rfl rfl ?_
    obtain ⟨h4, k⟩ := k
    refine w_iast (q := 57) (n := 24) rfl rfl rfl rfl rfl h4 ?_
    exact w_vret rfl k
  · replace k := k.2 c3
    refine w_aload_n (q := 14) rfl rfl rfl ?_
    refine w_aload_n (q := 15) rfl rfl rfl ?_
    refine w_gfr (q := 18) rfl rfl rfl rfl (j := 18) rfl ?_
    refine w_iload_n (q := 19) rfl rfl rfl ?_
    obtain ⟨h5, k⟩ := k
    refine w_iald (q := 20) (n := 24) (v := I 18 l2) rfl rfl rfl rfl rfl rfl h5 ?_
    refine w_iload_n (q := 21) rfl rfl rfl ?_
    refine w_callv (q := 24) rfl rfl rfl rfl rfl rfl ?_
    exact k
theorem b83_24 {xs : Nat → Int32} {xl : Nat} {I J : w_I} {b : Bool} {Q : Option Value → w_I → w_I → Bool → Prop} {l1 l2 s0 : Int} (k : ((-2147483648 ≤ s0 ∧ s0 < 2147483648) ∧ ((s0 = 0 → w_T xs xl 83 2 [some (.ref 8), some (w_i l1), some (w_i (l2 + 1))] [] [] I J b Q) ∧ (¬ s0 = 0 → ((0 ≤ l1 ∧ l1 < 402) ∧ w_C xs xl 79 [.ref 8, w_i 3, w_i (I 17 l1)] I J b (fun v Ic Jc bc => w_T xs xl 83 38 [some (.ref 8), some (w_i l1), some (w_i l2)] [] (w_pv v []) Ic Jc bc Q)))))) : w_T xs xl 83 24 [some (.ref 8), some (w_i l1), some (w_i l2)] [] [w_i s0] I J b Q := by
  obtain ⟨h1, k⟩ := k
  refine w_zeq (t := 38) (q := 27) rfl rfl rfl h1 (fun c2 => ?_) (fun c2 => ?_)
  · replace k := k.1 c2
    refine w_iinc (q := 41) (L' := [some (.ref 8), some (w_i l1), some (w_i (l2 + 1))]) (M' := []) rfl rfl rfl rfl rfl rfl ?_
    refine w_goto (t := 2) rfl rfl ?_
    exact k
  · replace k := k.2 c2
    refine w_aload_n (q := 28) rfl rfl rfl ?_
    refine w_iconst (q := 29) rfl rfl ?_
    refine w_aload_n (q := 30) rfl rfl rfl ?_
    refine w_gfr (q := 33) rfl rfl rfl rfl (j := 17) rfl ?_
    refine w_iload_n (q := 34) rfl rfl rfl ?_
    obtain ⟨h3, k⟩ := k
    refine w_iald (q := 35) (n := 402) (v := I 17 l1) rfl rfl rfl rfl rfl rfl h3 ?_
    refine w_callv (q := 38) rfl rfl rfl rfl rfl rfl ?_
    exact k
theorem b83_38 {xs : Nat → Int32} {xl : Nat} {I J : w_I} {b : Bool} {Q : Option Value → w_I → w_I → Bool → Prop} {l1 l2 : Int} (k : w_T xs xl 83 2 [some (.ref 8), some (w_i l1), some (w_i (l2 + 1))] [] [] I J b Q) : w_T xs xl 83 38 [some (.ref 8), some (w_i l1), some (w_i l2)] [] [] I J b Q := by
  refine w_iinc (q := 41) (L' := [some (.ref 8), some (w_i l1), some (w_i (l2 + 1))]) (M' := []) rfl rfl rfl rfl rfl rfl ?_
  refine w_goto (t := 2) rfl rfl ?_
  exact k
theorem e84 {xs : Nat → Int32} {xl : Nat} {I J : w_I} {b : Bool} {Q : Option Value → w_I → w_I → Bool → Prop} {a1 a2 : Int} (t : w_T xs xl 84 0 [some (.ref 8), some (w_i a1), some (w_i a2), none] [] [] I J b Q) : w_C xs xl 84 [.ref 8, w_i a1, w_i a2] I J b Q := w_en rfl t
theorem b84_0 {xs : Nat → Int32} {xl : Nat} {I J : w_I} {b : Bool} {Q : Option Value → w_I → w_I → Bool → Prop} {a1 a2 : Int} (k : ((0 ≤ a1 ∧ a1 < 402) ∧ ((0 ≤ a2 ∧ a2 < 402) ∧ ((-2147483648 ≤ I 16 a1 ∧ I 16 a1 < 2147483648) ∧ (-2147483648 ≤ I 16 a2 ∧ I 16 a2 < 2147483648) ∧ ((I 16 a1 = I 16 a2 → w_T xs xl 84 19 [some (.ref 8), some (w_i a1), some (w_i a2), some (w_i 0)] [] [] I J b Q) ∧ (¬ I 16 a1 = I 16 a2 → Q (some (w_i 0)) I J b)))))) : w_T xs xl 84 0 [some (.ref 8), some (w_i a1), some (w_i a2), none] [] [] I J b Q := by
  refine w_aload_n (q := 1) rfl rfl rfl ?_
  refine w_gfr (q := 4) rfl rfl rfl rfl (j := 16) rfl ?_
  refine w_iload_n (q := 5) rfl rfl rfl ?_
  obtain ⟨h1, k⟩ := k
  refine w_iald (q := 6) (n := 402) (v := I 16 a1) rfl rfl rfl rfl rfl rfl h1 ?_
  refine w_aload_n (q := 7) rfl rfl rfl ?_
  refine w_gfr (q := 10) rfl rfl rfl rfl (j := 16) rfl ?_
  refine w_iload_n (q := 11) rfl rfl rfl ?_
  obtain ⟨h2, k⟩ := k
  refine w_iald (q := 12) (n := 402) (v := I 16 a2) rfl rfl rfl rfl rfl rfl h2 ?_
  obtain ⟨h3, h4, k⟩ := k
  refine w_ceq (t := 17) (q := 15) rfl rfl rfl h3 h4 (fun c5 => ?_) (fun c5 => ?_)
  · replace k := k.1 c5
    refine w_iconst (q := 18) rfl rfl ?_
    refine w_istore_n (q := 19) (L' := [some (.ref 8), some (w_i a1), some (w_i a2), some (w_i 0)]) (M' := []) rfl rfl rfl rfl rfl ?_
    exact k
  · replace k := k.2 c5
    refine w_iconst (q := 16) rfl rfl ?_
    refine w_iret rfl rfl k
theorem b84_19 {xs : Nat → Int32} {xl : Nat} {I J : w_I} {b : Bool} {Q : Option Value → w_I → w_I → Bool → Prop} {l1 l2 l3 : Int} (k : ((0 ≤ l1 ∧ l1 < 402) ∧ ((-2147483648 ≤ l3 ∧ l3 < 2147483648) ∧ (-2147483648 ≤ I 16 l1 ∧ I 16 l1 < 2147483648) ∧ ((I 16 l1 ≤ l3 → Q (some (w_i 1)) I J b) ∧ (¬ I 16 l1 ≤ l3 → w_C xs xl 66 [.ref 8, w_i (I 17 l1 + l3)] I J b (fun v Ic Jc bc => w_T xs xl 84 41 [some (.ref 8), some (w_i l1), some (w_i l2), some (w_i l3)] [] (w_pv v []) Ic Jc bc Q)))))) : w_T xs xl 84 19 [some (.ref 8), some (w_i l1), some (w_i l2), some (w_i l3)] [] [] I J b Q := by
  refine w_iload_n (q := 20) rfl rfl rfl ?_
  refine w_aload_n (q := 21) rfl rfl rfl ?_
  refine w_gfr (q := 24) rfl rfl rfl rfl (j := 16) rfl ?_
  refine w_iload_n (q := 25) rfl rfl rfl ?_
  obtain ⟨h1, k⟩ := k
  refine w_iald (q := 26) (n := 402) (v := I 16 l1) rfl rfl rfl rfl rfl rfl h1 ?_
  obtain ⟨h2, h3, k⟩ := k
  refine w_cge (t := 64) (q := 29) rfl rfl rfl h2 h3 (fun c4 => ?_) (fun c4 => ?_)
  · replace k := k.1 c4
    refine w_iconst (q := 65) rfl rfl ?_
    refine w_iret rfl rfl k
  · replace k := k.2 c4
    refine w_aload_n (q := 30) rfl rfl rfl ?_
    refine w_aload_n (q := 31) rfl rfl rfl ?_
    refine w_gfr (q := 34) rfl rfl rfl rfl (j := 17) rfl ?_
    refine w_iload_n (q := 35) rfl rfl rfl ?_
    refine w_iald (q := 36) (n := 402) (v := I 17 l1) rfl rfl rfl rfl rfl rfl h1 ?_
    refine w_iload_n (q := 37) rfl rfl rfl ?_
    refine w_iadd (q := 38) rfl rfl ?_
    refine w_callv (q := 41) rfl rfl rfl rfl rfl rfl ?_
    exact k
theorem b84_41 {xs : Nat → Int32} {xl : Nat} {I J : w_I} {b : Bool} {Q : Option Value → w_I → w_I → Bool → Prop} {l1 l2 l3 s0 : Int} (k : ((0 ≤ l2 ∧ l2 < 402) ∧ w_C xs xl 66 [.ref 8, w_i (I 17 l2 + l3)] I J b (fun v Ic Jc bc => w_T xs xl 84 53 [some (.ref 8), some (w_i l1), some (w_i l2), some (w_i l3)] [] (w_pv v [w_i s0]) Ic Jc bc Q))) : w_T xs xl 84 41 [some (.ref 8), some (w_i l1), some (w_i l2), some (w_i l3)] [] [w_i s0] I J b Q := by
  refine w_aload_n (q := 42) rfl rfl rfl ?_
  refine w_aload_n (q := 43) rfl rfl rfl ?_
  refine w_gfr (q := 46) rfl rfl rfl rfl (j := 17) rfl ?_
  refine w_iload_n (q := 47) rfl rfl rfl ?_
  obtain ⟨h1, k⟩ := k
  refine w_iald (q := 48) (n := 402) (v := I 17 l2) rfl rfl rfl rfl rfl rfl h1 ?_
  refine w_iload_n (q := 49) rfl rfl rfl ?_
  refine w_iadd (q := 50) rfl rfl ?_
  refine w_callv (q := 53) rfl rfl rfl rfl rfl rfl ?_
  exact k
theorem b84_53 {xs : Nat → Int32} {xl : Nat} {I J : w_I} {b : Bool} {Q : Option Value → w_I → w_I → Bool → Prop} {l1 l2 l3 s0 s1 : Int} (k : ((-2147483648 ≤ s0 ∧ s0 < 2147483648) ∧ (-2147483648 ≤ s1 ∧ s1 < 2147483648) ∧ ((s0 = s1 → w_T xs xl 84 19 [some (.ref 8), some (w_i l1), some (w_i l2), some (w_i (l3 + 1))] [] [] I J b Q) ∧ (¬ s0 = s1 → Q (some (w_i 0)) I J b)))) : w_T xs xl 84 53 [some (.ref 8), some (w_i l1), some (w_i l2), some (w_i l3)] [] [w_i s1, w_i s0] I J b Q := by
  obtain ⟨h1, h2, k⟩ := k
  refine w_ceq (t := 58) (q := 56) rfl rfl rfl h1 h2 (fun c3 => ?_) (fun c3 => ?_)
  · replace k := k.1 c3
    refine w_iinc (q := 61) (L' := [some (.ref 8), some (w_i l1), some (w_i l2), some (w_i (l3 + 1))]) (M' := []) rfl rfl rfl rfl rfl rfl ?_
    refine w_goto (t := 19) rfl rfl ?_
    exact k
  · replace k := k.2 c3
    refine w_iconst (q := 57) rfl rfl ?_
    refine w_iret rfl rfl k
theorem e85 {xs : Nat → Int32} {xl : Nat} {I J : w_I} {b : Bool} {Q : Option Value → w_I → w_I → Bool → Prop} {a1 : Int} (t : w_T xs xl 85 0 [some (.ref 8), some (w_i a1)] [] [] I J b Q) : w_C xs xl 85 [.ref 8, w_i a1] I J b Q := w_en rfl t
theorem b85_0 {xs : Nat → Int32} {xl : Nat} {I J : w_I} {b : Bool} {Q : Option Value → w_I → w_I → Bool → Prop} {a1 : Int} (k : w_C xs xl 77 [.ref 8] I J b (fun v Ic Jc bc => w_T xs xl 85 4 [some (.ref 8), some (w_i a1)] [] (w_pv v []) Ic Jc bc Q)) : w_T xs xl 85 0 [some (.ref 8), some (w_i a1)] [] [] I J b Q := by
  refine w_aload_n (q := 1) rfl rfl rfl ?_
  refine w_callv (q := 4) rfl rfl rfl rfl rfl rfl ?_
  exact k
theorem b85_4 {xs : Nat → Int32} {xl : Nat} {I J : w_I} {b : Bool} {Q : Option Value → w_I → w_I → Bool → Prop} {l1 s0 : Int} (k : ((-2147483648 ≤ s0 ∧ s0 < 2147483648) ∧ ((¬ s0 = 0 → ((-2147483648 ≤ l1 ∧ l1 < 2147483648) ∧ ((¬ l1 = 23 → ((0 ≤ I 8 9 ∧ I 8 9 < 402) ∧ w_C xs xl 80 [.ref 8, w_i 1, w_i 9] (w_U I 9 7 (I 16 (I 8 9))) J b (fun v Ic Jc bc => w_T xs xl 85 78 [some (.ref 8), some (w_i l1)] [] (w_pv v []) Ic Jc bc Q))) ∧ (l1 = 23 → ((0 ≤ I 8 9 ∧ I 8 9 < 402) ∧ w_C xs xl 80 [.ref 8, w_i 1, w_i 20] (w_U I 9 6 (I 16 (I 8 9))) J b (fun v Ic Jc bc => w_T xs xl 85 38 [some (.ref 8), some (w_i l1)] [] (w_pv v []) Ic Jc bc Q)))))) ∧ (s0 = 0 → Q (some (w_i 0)) I J b)))) : w_T xs xl 85 4 [some (.ref 8), some (w_i l1)] [] [w_i s0] I J b Q := by
  obtain ⟨h1, k⟩ := k
  refine w_zne (t := 9) (q := 7) rfl rfl rfl h1 (fun c2 => ?_) (fun c2 => ?_)
  · replace k := k.1 c2
    refine w_iload_n (q := 10) rfl rfl rfl ?_
    refine w_bipush (q := 12) rfl rfl rfl ?_
    obtain ⟨h3, k⟩ := k
    refine w_cne (t := 55) (q := 15) rfl rfl rfl h3 (by decide) (fun c4 => ?_) (fun c4 => ?_)
    · replace k := k.1 c4
      refine w_aload_n (q := 56) rfl rfl rfl ?_
      refine w_gfr (q := 59) rfl rfl rfl rfl (j := 9) rfl ?_
      refine w_aload_n (q := 60) rfl rfl rfl ?_
      refine w_gfr (q := 63) rfl rfl rfl rfl (j := 16) rfl ?_
      refine w_aload_n (q := 64) rfl rfl rfl ?_
      refine w_gfi (q := 67) (k' := 9) (v := I 8 9) rfl rfl rfl rfl rfl rfl rfl ?_
      obtain ⟨h5, k⟩ := k
      refine w_iald (q := 68) (n := 402) (v := I 16 (I 8 9)) rfl rfl rfl rfl rfl rfl h5 ?_
      refine w_pfi (q := 71) (k' := 7) rfl rfl rfl rfl ?_
      refine w_aload_n (q := 72) rfl rfl rfl ?_
      refine w_iconst (q := 73) rfl rfl ?_
      refine w_bipush (q := 75) rfl rfl rfl ?_
      refine w_callv (q := 78) rfl rfl rfl rfl rfl rfl ?_
      exact k
    · replace k := k.2 c4
      refine w_aload_n (q := 16) rfl rfl rfl ?_
      refine w_gfr (q := 19) rfl rfl rfl rfl (j := 9) rfl ?_
      refine w_aload_n (q := 20) rfl rfl rfl ?_
      refine w_gfr (q := 23) rfl rfl rfl rfl (j := 16) rfl ?_
      refine w_aload_n (q := 24) rfl rfl rfl ?_
      refine w_gfi (q := 27) (k' := 9) (v := I 8 9) rfl rfl rfl rfl rfl rfl rfl ?_
      obtain ⟨h6, k⟩ := k
      refine w_iald (q := 28) (n := 402) (v := I 16 (I 8 9)) rfl rfl rfl rfl rfl rfl h6 ?_
      refine w_pfi (q := 31) (k' := 6) rfl rfl rfl rfl ?_
      refine w_aload_n (q := 32) rfl rfl rfl ?_
      refine w_iconst (q := 33) rfl rfl ?_
      refine w_bipush (q := 35) rfl rfl rfl ?_
      refine w_callv (q := 38) rfl rfl rfl rfl rfl rfl ?_
      exact k
  · replace k := k.2 c2
    refine w_iconst (q := 8) rfl rfl ?_
    refine w_iret rfl rfl k
theorem b85_78 {xs : Nat → Int32} {xl : Nat} {I J : w_I} {b : Bool} {Q : Option Value → w_I → w_I → Bool → Prop} {u1 : Option Value} {s0 : Int} (k : ((-2147483648 ≤ s0 ∧ s0 < 2147483648) ∧ ((s0 = 0 → Q (some (w_i 0)) I J b) ∧ (¬ s0 = 0 → w_C xs xl 78 [.ref 8, w_i 4] I J b (fun v Ic Jc bc => w_T xs xl 85 86 [some (.ref 8), u1] [] (w_pv v []) Ic Jc bc Q))))) : w_T xs xl 85 78 [some (.ref 8), u1] [] [w_i s0] I J b Q := by
  obtain ⟨h1, k⟩ := k
  refine w_zeq (t := 93) (q := 81) rfl rfl rfl h1 (fun c2 => ?_) (fun c2 => ?_)
  · replace k := k.1 c2
    refine w_iconst (q := 94) rfl rfl ?_
    refine w_iret rfl rfl k
  · replace k := k.2 c2
    refine w_aload_n (q := 82) rfl rfl rfl ?_
    refine w_iconst (q := 83) rfl rfl ?_
    refine w_callv (q := 86) rfl rfl rfl rfl rfl rfl ?_
    exact k
theorem b85_38 {xs : Nat → Int32} {xl : Nat} {I J : w_I} {b : Bool} {Q : Option Value → w_I → w_I → Bool → Prop} {u1 : Option Value} {s0 : Int} (k : ((-2147483648 ≤ s0 ∧ s0 < 2147483648) ∧ ((s0 = 0 → Q (some (w_i 0)) I J b) ∧ (¬ s0 = 0 → w_C xs xl 78 [.ref 8, w_i 4] I J b (fun v Ic Jc bc => w_T xs xl 85 46 [some (.ref 8), u1] [] (w_pv v []) Ic Jc bc Q))))) : w_T xs xl 85 38 [some (.ref 8), u1] [] [w_i s0] I J b Q := by
  obtain ⟨h1, k⟩ := k
  refine w_zeq (t := 53) (q := 41) rfl rfl rfl h1 (fun c2 => ?_) (fun c2 => ?_)
  · replace k := k.1 c2
    refine w_iconst (q := 54) rfl rfl ?_
    refine w_iret rfl rfl k
  · replace k := k.2 c2
    refine w_aload_n (q := 42) rfl rfl rfl ?_
    refine w_iconst (q := 43) rfl rfl ?_
    refine w_callv (q := 46) rfl rfl rfl rfl rfl rfl ?_
    exact k
theorem b85_86 {xs : Nat → Int32} {xl : Nat} {I J : w_I} {b : Bool} {Q : Option Value → w_I → w_I → Bool → Prop} {u1 : Option Value} {s0 : Int} (k : ((-2147483648 ≤ s0 ∧ s0 < 2147483648) ∧ ((s0 = 0 → Q (some (w_i 0)) I J b) ∧ (¬ s0 = 0 → Q (some (w_i 1)) I J b)))) : w_T xs xl 85 86 [some (.ref 8), u1] [] [w_i s0] I J b Q := by
  obtain ⟨h1, k⟩ := k
  refine w_zeq (t := 93) (q := 89) rfl rfl rfl h1 (fun c2 => ?_) (fun c2 => ?_)
  · replace k := k.1 c2
    refine w_iconst (q := 94) rfl rfl ?_
    refine w_iret rfl rfl k
  · replace k := k.2 c2
    refine w_iconst (q := 90) rfl rfl ?_
    refine w_goto (t := 94) rfl rfl ?_
    refine w_iret rfl rfl k
theorem b85_46 {xs : Nat → Int32} {xl : Nat} {I J : w_I} {b : Bool} {Q : Option Value → w_I → w_I → Bool → Prop} {u1 : Option Value} {s0 : Int} (k : ((-2147483648 ≤ s0 ∧ s0 < 2147483648) ∧ ((s0 = 0 → Q (some (w_i 0)) I J b) ∧ (¬ s0 = 0 → Q (some (w_i 1)) I J b)))) : w_T xs xl 85 46 [some (.ref 8), u1] [] [w_i s0] I J b Q := by
  obtain ⟨h1, k⟩ := k
  refine w_zeq (t := 53) (q := 49) rfl rfl rfl h1 (fun c2 => ?_) (fun c2 => ?_)
  · replace k := k.1 c2
    refine w_iconst (q := 54) rfl rfl ?_
    refine w_iret rfl rfl k
  · replace k := k.2 c2
    refine w_iconst (q := 50) rfl rfl ?_
    refine w_goto (t := 54) rfl rfl ?_
    refine w_iret rfl rfl k
theorem e86 {xs : Nat → Int32} {xl : Nat} {I J : w_I} {b : Bool} {Q : Option Value → w_I → w_I → Bool → Prop} (t : w_T xs xl 86 0 [some (.ref 8)] [] [] I J b Q) : w_C xs xl 86 [.ref 8] I J b Q := w_en rfl t
theorem b86_0 {xs : Nat → Int32} {xl : Nat} {I J : w_I} {b : Bool} {Q : Option Value → w_I → w_I → Bool → Prop} (k : w_C xs xl 77 [.ref 8] I J b (fun v Ic Jc bc => w_T xs xl 86 4 [some (.ref 8)] [] (w_pv v []) Ic Jc bc Q)) : w_T xs xl 86 0 [some (.ref 8)] [] [] I J b Q := by
  refine w_aload_n (q := 1) rfl rfl rfl ?_
  refine w_callv (q := 4) rfl rfl rfl rfl rfl rfl ?_
  exact k
theorem b86_4 {xs : Nat → Int32} {xl : Nat} {I J : w_I} {b : Bool} {Q : Option Value → w_I → w_I → Bool → Prop} {s0 : Int} (k : ((-2147483648 ≤ s0 ∧ s0 < 2147483648) ∧ ((¬ s0 = 0 → ((0 ≤ I 8 9 ∧ I 8 9 < 402) ∧ ((-2147483648 ≤ I 15 (I 8 9) ∧ I 15 (I 8 9) < 2147483648) ∧ ((I 15 (I 8 9) = 26 → ((¬ I 15 (I 8 9) = 27 → w_C xs xl 77 [.ref 8] (w_U I 9 10 0) J b (fun v Ic Jc bc => w_T xs xl 86 73 [some (.ref 8)] [] (w_pv v []) Ic Jc bc Q)) ∧ (I 15 (I 8 9) = 27 → w_C xs xl 77 [.ref 8] (w_U I 9 10 1) J b (fun v Ic Jc bc => w_T xs xl 86 73 [some (.ref 8)] [] (w_pv v []) Ic Jc bc Q)))) ∧ (¬ I 15 (I 8 9) = 26 → ((I 15 (I 8 9) = 27 → ((¬ I 15 (I 8 9) = 27 → w_C xs xl 77 [.ref 8] (w_U I 9 10 0) J b (fun v Ic Jc bc => w_T xs xl 86 73 [some (.ref 8)] [] (w_pv v []) Ic Jc bc Q)) ∧ (I 15 (I 8 9) = 27 → w_C xs xl 77 [.ref 8] (w_U I 9 10 1) J b (fun v Ic Jc bc => w_T xs xl 86 73 [some (.ref 8)] [] (w_pv v []) Ic Jc bc Q)))) ∧ (¬ I 15 (I 8 9) = 27 → w_C xs xl 76 [.ref 8, w_i 1] I J b (fun v Ic Jc bc => w_T xs xl 86 42 [some (.ref 8)] [] (w_pv v []) Ic Jc bc Q)))))))) ∧ (s0 = 0 → Q (some (w_i 0)) I J b)))) : w_T xs xl 86 4 [some (.ref 8)] [] [w_i s0] I J b Q := by
  obtain ⟨h1, k⟩ := k
  refine w_zne (t := 9) (q := 7) rfl rfl rfl h1 (fun c2 => ?_) (fun c2 => ?_)
  · replace k := k.1 c2
    refine w_aload_n (q := 10) rfl rfl rfl ?_
    refine w_gfr (q := 13) rfl rfl rfl rfl (j := 15) rfl ?_
    refine w_aload_n (q := 14) rfl rfl rfl ?_
    refine w_gfi (q := 17) (k' := 9) (v := I 8 9) rfl rfl rfl rfl rfl rfl rfl ?_
    obtain ⟨h3, k⟩ := k
    refine w_iald (q := 18) (n := 402) (v := I 15 (I 8 9)) rfl rfl rfl rfl rfl rfl h3 ?_
    refine w_bipush (q := 20) rfl rfl rfl ?_
    obtain ⟨h4, k⟩ := k
    refine w_ceq (t := 43) (q := 23) rfl rfl rfl h4 (by decide) (fun c5 => ?_) (fun c5 => ?_)
    · replace k := k.1 c5
      refine w_aload_n (q := 44) rfl rfl rfl ?_
      refine w_gfr (q := 47) rfl rfl rfl rfl (j := 9) rfl ?_
      refine w_aload_n (q := 48) rfl rfl rfl ?_
      refine w_gfr (q := 51) rfl rfl rfl rfl (j := 15) rfl ?_
      refine w_aload_n (q := 52) rfl rfl rfl ?_
      refine w_gfi (q := 55) (k' := 9) (v := I 8 9) rfl rfl rfl rfl rfl rfl rfl ?_
      refine w_iald (q := 56) (n := 402) (v := I 15 (I 8 9)) rfl rfl rfl rfl rfl rfl h3 ?_
      refine w_bipush (q := 58) rfl rfl rfl ?_
      refine w_cne (t := 65) (q := 61) rfl rfl rfl h4 (by decide) (fun c6 => ?_) (fun c6 => ?_)
      · replace k := k.1 c6
        refine w_iconst (q := 66) rfl rfl ?_
        refine w_pfz (q := 69) (k' := 10) rfl rfl rfl rfl (by decide) ?_
        refine w_aload_n (q := 70) rfl rfl rfl ?_
        refine w_callv (q := 73) rfl rfl rfl rfl rfl rfl ?_
        exact k
      · replace k := k.2 c6
        refine w_iconst (q := 62) rfl rfl ?_
        refine w_goto (t := 66) rfl rfl ?_
        refine w_pfz (q := 69) (k' := 10) rfl rfl rfl rfl (by decide) ?_
        refine w_aload_n (q := 70) rfl rfl rfl ?_
        refine w_callv (q := 73) rfl rfl rfl rfl rfl rfl ?_
        exact k
    · replace k := k.2 c5
      refine w_aload_n (q := 24) rfl rfl rfl ?_
      refine w_gfr (q := 27) rfl rfl rfl rfl (j := 15) rfl ?_
      refine w_aload_n (q := 28) rfl rfl rfl ?_
      refine w_gfi (q := 31) (k' := 9) (v := I 8 9) rfl rfl rfl rfl rfl rfl rfl ?_
      refine w_iald (q := 32) (n := 402) (v := I 15 (I 8 9)) rfl rfl rfl rfl rfl rfl h3 ?_
      refine w_bipush (q := 34) rfl rfl rfl ?_
      refine w_ceq (t := 43) (q := 37) rfl rfl rfl h4 (by decide) (fun c7 => ?_) (fun c7 => ?_)
      · replace k := k.1 c7
        refine w_aload_n (q := 44) rfl rfl rfl ?_
        refine w_gfr (q := 47) rfl rfl rfl rfl (j := 9) rfl ?_
        refine w_aload_n (q := 48) rfl rfl rfl ?_
        refine w_gfr (q := 51) rfl rfl rfl rfl (j := 15) rfl ?_
        refine w_aload_n (q := 52) rfl rfl rfl ?_
        refine w_gfi (q := 55) (k' := 9) (v := I 8 9) rfl rfl rfl rfl rfl rfl rfl ?_
        refine w_iald (q := 56) (n := 402) (v := I 15 (I 8 9)) rfl rfl rfl rfl rfl rfl h3 ?_
        refine w_bipush (q := 58) rfl rfl rfl ?_
        refine w_cne (t := 65) (q := 61) rfl rfl rfl h4 (by decide) (fun c8 => ?_) (fun c8 => ?_)
        · replace k := k.1 c8
          refine w_iconst (q := 66) rfl rfl ?_
          refine w_pfz (q := 69) (k' := 10) rfl rfl rfl rfl (by decide) ?_
          refine w_aload_n (q := 70) rfl rfl rfl ?_
          refine w_callv (q := 73) rfl rfl rfl rfl rfl rfl ?_
          exact k
        · replace k := k.2 c8
          refine w_iconst (q := 62) rfl rfl ?_
          refine w_goto (t := 66) rfl rfl ?_
          refine w_pfz (q := 69) (k' := 10) rfl rfl rfl rfl (by decide) ?_
          refine w_aload_n (q := 70) rfl rfl rfl ?_
          refine w_callv (q := 73) rfl rfl rfl rfl rfl rfl ?_
          exact k
      · replace k := k.2 c7
        refine w_aload_n (q := 38) rfl rfl rfl ?_
        refine w_iconst (q := 39) rfl rfl ?_
        refine w_callv (q := 42) rfl rfl rfl rfl rfl rfl ?_
        exact k
  · replace k := k.2 c2
    refine w_iconst (q := 8) rfl rfl ?_
    refine w_iret rfl rfl k
theorem b86_73 {xs : Nat → Int32} {xl : Nat} {I J : w_I} {b : Bool} {Q : Option Value → w_I → w_I → Bool → Prop} {s0 : Int} (k : ((-2147483648 ≤ s0 ∧ s0 < 2147483648) ∧ ((s0 = 0 → Q (some (w_i 0)) I J b) ∧ (¬ s0 = 0 → w_C xs xl 78 [.ref 8, w_i 4] I J b (fun v Ic Jc bc => w_T xs xl 86 81 [some (.ref 8)] [] (w_pv v []) Ic Jc bc Q))))) : w_T xs xl 86 73 [some (.ref 8)] [] [w_i s0] I J b Q := by
  obtain ⟨h1, k⟩ := k
  refine w_zeq (t := 88) (q := 76) rfl rfl rfl h1 (fun c2 => ?_) (fun c2 => ?_)
  · replace k := k.1 c2
    refine w_iconst (q := 89) rfl rfl ?_
    refine w_iret rfl rfl k
  · replace k := k.2 c2
    refine w_aload_n (q := 77) rfl rfl rfl ?_
    refine w_iconst (q := 78) rfl rfl ?_
    refine w_callv (q := 81) rfl rfl rfl rfl rfl rfl ?_
    exact k
theorem b86_42 {xs : Nat → Int32} {xl : Nat} {I J : w_I} {b : Bool} {Q : Option Value → w_I → w_I → Bool → Prop} {s0 : Int} (k : ((s0 = 0 ∨ s0 = 1) ∧ Q (some (w_i s0)) I J b)) : w_T xs xl 86 42 [some (.ref 8)] [] [w_i s0] I J b Q := by
  obtain ⟨h1, k⟩ := k
  refine w_iret rfl (w_nz1 h1) k
theorem b86_81 {xs : Nat → Int32} {xl : Nat} {I J : w_I} {b : Bool} {Q : Option Value → w_I → w_I → Bool → Prop} {s0 : Int} (k : ((-2147483648 ≤ s0 ∧ s0 < 2147483648) ∧ ((s0 = 0 → Q (some (w_i 0)) I J b) ∧ (¬ s0 = 0 → Q (some (w_i 1)) I J b)))) : w_T xs xl 86 81 [some (.ref 8)] [] [w_i s0] I J b Q := by
  obtain ⟨h1, k⟩ := k
  refine w_zeq (t := 88) (q := 84) rfl rfl rfl h1 (fun c2 => ?_) (fun c2 => ?_)
  · replace k := k.1 c2
    refine w_iconst (q := 89) rfl rfl ?_
    refine w_iret rfl rfl k
  · replace k := k.2 c2
    refine w_iconst (q := 85) rfl rfl ?_
    refine w_goto (t := 89) rfl rfl ?_
    refine w_iret rfl rfl k
theorem e87 {xs : Nat → Int32} {xl : Nat} {I J : w_I} {b : Bool} {Q : Option Value → w_I → w_I → Bool → Prop} {a1 : Int} (t : w_T xs xl 87 0 [some (.ref 8), some (w_i a1)] [] [] I J b Q) : w_C xs xl 87 [.ref 8, w_i a1] I J b Q := w_en rfl t
theorem b87_0 {xs : Nat → Int32} {xl : Nat} {I J : w_I} {b : Bool} {Q : Option Value → w_I → w_I → Bool → Prop} {a1 : Int} (k : ((0 ≤ a1 ∧ a1 < 10) ∧ w_C xs xl 77 [.ref 8] (w_U I 13 a1 (I 9 9)) J b (fun v Ic Jc bc => w_T xs xl 87 20 [some (.ref 8), some (w_i a1)] [] (w_pv v []) Ic Jc bc Q))) : w_T xs xl 87 0 [some (.ref 8), some (w_i a1)] [] [] I J b Q := by
  refine w_aload_n (q := 1) rfl rfl rfl ?_
  refine w_gfr (q := 4) rfl rfl rfl rfl (j := 9) rfl ?_
  refine w_gfr (q := 7) rfl rfl rfl rfl (j := 13) rfl ?_
  refine w_iload_n (q := 8) rfl rfl rfl ?_
  refine w_aload_n (q := 9) rfl rfl rfl ?_
  refine w_gfr (q := 12) rfl rfl rfl rfl (j := 9) rfl ?_
  refine w_gfi (q := 15) (k' := 9) (v := I 9 9) rfl rfl rfl rfl rfl rfl rfl ?_
  obtain ⟨h1, k⟩ := k
  refine w_iast (q := 16) (n := 10) rfl rfl rfl rfl rfl h1 ?_
  refine w_aload_n (q := 17) rfl rfl rfl ?_
  refine w_callv (q := 20) rfl rfl rfl rfl rfl rfl ?_
  exact k
theorem b87_20 {xs : Nat → Int32} {xl : Nat} {I J : w_I} {b : Bool} {Q : Option Value → w_I → w_I → Bool → Prop} {l1 s0 : Int} (k : ((-2147483648 ≤ s0 ∧ s0 < 2147483648) ∧ ((s0 = 0 → Q (some (w_i 0)) I J b) ∧ (¬ s0 = 0 → w_C xs xl 78 [.ref 8, w_i 5] I J b (fun v Ic Jc bc => w_T xs xl 87 28 [some (.ref 8), some (w_i l1)] [] (w_pv v []) Ic Jc bc Q))))) : w_T xs xl 87 20 [some (.ref 8), some (w_i l1)] [] [w_i s0] I J b Q := by
  obtain ⟨h1, k⟩ := k
  refine w_zeq (t := 38) (q := 23) rfl rfl rfl h1 (fun c2 => ?_) (fun c2 => ?_)
  · replace k := k.1 c2
    refine w_iconst (q := 39) rfl rfl ?_
    refine w_iret rfl rfl k
  · replace k := k.2 c2
    refine w_aload_n (q := 24) rfl rfl rfl ?_
    refine w_iconst (q := 25) rfl rfl ?_
    refine w_callv (q := 28) rfl rfl rfl rfl rfl rfl ?_
    exact k
theorem b87_28 {xs : Nat → Int32} {xl : Nat} {I J : w_I} {b : Bool} {Q : Option Value → w_I → w_I → Bool → Prop} {l1 s0 : Int} (k : ((-2147483648 ≤ s0 ∧ s0 < 2147483648) ∧ ((s0 = 0 → Q (some (w_i 0)) I J b) ∧ (¬ s0 = 0 → w_C xs xl 90 [.ref 8] I J b (fun v Ic Jc bc => w_T xs xl 87 35 [some (.ref 8), some (w_i l1)] [] (w_pv v []) Ic Jc bc Q))))) : w_T xs xl 87 28 [some (.ref 8), some (w_i l1)] [] [w_i s0] I J b Q := by
  obtain ⟨h1, k⟩ := k
  refine w_zeq (t := 38) (q := 31) rfl rfl rfl h1 (fun c2 => ?_) (fun c2 => ?_)
  · replace k := k.1 c2
    refine w_iconst (q := 39) rfl rfl ?_
    refine w_iret rfl rfl k
  · replace k := k.2 c2
    refine w_aload_n (q := 32) rfl rfl rfl ?_
    refine w_callv (q := 35) rfl rfl rfl rfl rfl rfl ?_
    exact k
theorem b87_35 {xs : Nat → Int32} {xl : Nat} {I J : w_I} {b : Bool} {Q : Option Value → w_I → w_I → Bool → Prop} {l1 s0 : Int} (k : ((-2147483648 ≤ s0 ∧ s0 < 2147483648) ∧ ((¬ s0 = 0 → ((0 ≤ l1 ∧ l1 < 10) ∧ w_C xs xl 78 [.ref 8, w_i 4] (w_U I 14 l1 (I 9 9)) J b (fun v Ic Jc bc => w_T xs xl 87 61 [some (.ref 8), some (w_i l1)] [] (w_pv v []) Ic Jc bc Q))) ∧ (s0 = 0 → Q (some (w_i 0)) I J b)))) : w_T xs xl 87 35 [some (.ref 8), some (w_i l1)] [] [w_i s0] I J b Q := by
  obtain ⟨h1, k⟩ := k
  refine w_zne (t := 40) (q := 38) rfl rfl rfl h1 (fun c2 => ?_) (fun c2 => ?_)
  · replace k := k.1 c2
    refine w_aload_n (q := 41) rfl rfl rfl ?_
    refine w_gfr (q := 44) rfl rfl rfl rfl (j := 9) rfl ?_
    refine w_gfr (q := 47) rfl rfl rfl rfl (j := 14) rfl ?_
    refine w_iload_n (q := 48) rfl rfl rfl ?_
    refine w_aload_n (q := 49) rfl rfl rfl ?_
    refine w_gfr (q := 52) rfl rfl rfl rfl (j := 9) rfl ?_
    refine w_gfi (q := 55) (k' := 9) (v := I 9 9) rfl rfl rfl rfl rfl rfl rfl ?_
    obtain ⟨h3, k⟩ := k
    refine w_iast (q := 56) (n := 10) rfl rfl rfl rfl rfl h3 ?_
    refine w_aload_n (q := 57) rfl rfl rfl ?_
    refine w_iconst (q := 58) rfl rfl ?_
    refine w_callv (q := 61) rfl rfl rfl rfl rfl rfl ?_
    exact k
  · replace k := k.2 c2
    refine w_iconst (q := 39) rfl rfl ?_
    refine w_iret rfl rfl k
theorem b87_61 {xs : Nat → Int32} {xl : Nat} {I J : w_I} {b : Bool} {Q : Option Value → w_I → w_I → Bool → Prop} {u1 : Option Value} {s0 : Int} (k : ((s0 = 0 ∨ s0 = 1) ∧ Q (some (w_i s0)) I J b)) : w_T xs xl 87 61 [some (.ref 8), u1] [] [w_i s0] I J b Q := by
  obtain ⟨h1, k⟩ := k
  refine w_iret rfl (w_nz1 h1) k
theorem e88 {xs : Nat → Int32} {xl : Nat} {I J : w_I} {b : Bool} {Q : Option Value → w_I → w_I → Bool → Prop} (t : w_T xs xl 88 0 [some (.ref 8), none, none, none, none] [] [] I J b Q) : w_C xs xl 88 [.ref 8] I J b Q := w_en rfl t
theorem b88_0 {xs : Nat → Int32} {xl : Nat} {I J : w_I} {b : Bool} {Q : Option Value → w_I → w_I → Bool → Prop} (k : ((-2147483648 ≤ I 9 8 ∧ I 9 8 < 2147483648) ∧ ((I 9 8 < 6 → ((0 ≤ 4 + I 9 8 ∧ 4 + I 9 8 < 10) ∧ w_C xs xl 77 [.ref 8] (w_U I 13 (4 + I 9 8) (I 9 9)) J b (fun v Ic Jc bc => w_T xs xl 88 48 [some (.ref 8), some (w_i (4 + I 9 8)), none, none, none] [] (w_pv v []) Ic Jc bc Q))) ∧ (¬ I 9 8 < 6 → w_C xs xl 76 [.ref 8, w_i 2] I J b (fun v Ic Jc bc => w_T xs xl 88 17 [some (.ref 8), none, none, none, none] [] (w_pv v []) Ic Jc bc Q))))) : w_T xs xl 88 0 [some (.ref 8), none, none, none, none] [] [] I J b Q := by
  refine w_aload_n (q := 1) rfl rfl rfl ?_
  refine w_gfr (q := 4) rfl rfl rfl rfl (j := 9) rfl ?_
  refine w_gfi (q := 7) (k' := 8) (v := I 9 8) rfl rfl rfl rfl rfl rfl rfl ?_
  refine w_bipush (q := 9) rfl rfl rfl ?_
  obtain ⟨h1, k⟩ := k
  refine w_clt (t := 18) (q := 12) rfl rfl rfl h1 (by decide) (fun c2 => ?_) (fun c2 => ?_)
  · replace k := k.1 c2
    refine w_iconst (q := 19) rfl rfl ?_
    refine w_aload_n (q := 20) rfl rfl rfl ?_
    refine w_gfr (q := 23) rfl rfl rfl rfl (j := 9) rfl ?_
    refine w_gfi (q := 26) (k' := 8) (v := I 9 8) rfl rfl rfl rfl rfl rfl rfl ?_
    refine w_iadd (q := 27) rfl rfl ?_
    refine w_istore_n (q := 28) (L' := [some (.ref 8), some (w_i (4 + I 9 8)), none, none, none]) (M' := []) rfl rfl rfl rfl rfl ?_
    refine w_aload_n (q := 29) rfl rfl rfl ?_
    refine w_gfr (q := 32) rfl rfl rfl rfl (j := 9) rfl ?_
    refine w_gfr (q := 35) rfl rfl rfl rfl (j := 13) rfl ?_
    refine w_iload_n (q := 36) rfl rfl rfl ?_
    refine w_aload_n (q := 37) rfl rfl rfl ?_
    refine w_gfr (q := 40) rfl rfl rfl rfl (j := 9) rfl ?_
    refine w_gfi (q := 43) (k' := 9) (v := I 9 9) rfl rfl rfl rfl rfl rfl rfl ?_
    obtain ⟨h3, k⟩ := k
    refine w_iast (q := 44) (n := 10) rfl rfl rfl rfl rfl h3 ?_
    refine w_aload_n (q := 45) rfl rfl rfl ?_
    refine w_callv (q := 48) rfl rfl rfl rfl rfl rfl ?_
    exact k
  · replace k := k.2 c2
    refine w_aload_n (q := 13) rfl rfl rfl ?_
    refine w_iconst (q := 14) rfl rfl ?_
    refine w_callv (q := 17) rfl rfl rfl rfl rfl rfl ?_
    exact k
theorem b88_48 {xs : Nat → Int32} {xl : Nat} {I J : w_I} {b : Bool} {Q : Option Value → w_I → w_I → Bool → Prop} {l1 s0 : Int} {u2 u3 u4 : Option Value} (k : ((-2147483648 ≤ s0 ∧ s0 < 2147483648) ∧ ((s0 = 0 → Q (some (w_i 0)) I J b) ∧ (¬ s0 = 0 → w_C xs xl 78 [.ref 8, w_i 33] I J b (fun v Ic Jc bc => w_T xs xl 88 57 [some (.ref 8), some (w_i l1), u2, u3, u4] [] (w_pv v []) Ic Jc bc Q))))) : w_T xs xl 88 48 [some (.ref 8), some (w_i l1), u2, u3, u4] [] [w_i s0] I J b Q := by
  obtain ⟨h1, k⟩ := k
  refine w_zeq (t := 60) (q := 51) rfl rfl rfl h1 (fun c2 => ?_) (fun c2 => ?_)
  · replace k := k.1 c2
    refine w_iconst (q := 61) rfl rfl ?_
    refine w_iret rfl rfl k
  · replace k := k.2 c2
    refine w_aload_n (q := 52) rfl rfl rfl ?_
    refine w_bipush (q := 54) rfl rfl rfl ?_
    refine w_callv (q := 57) rfl rfl rfl rfl rfl rfl ?_
    exact k
theorem b88_17 {xs : Nat → Int32} {xl : Nat} {I J : w_I} {b : Bool} {Q : Option Value → w_I → w_I → Bool → Prop} {u1 u2 u3 u4 : Option Value} {s0 : Int} (k : ((s0 = 0 ∨ s0 = 1) ∧ Q (some (w_i s0)) I J b)) : w_T xs xl 88 17 [some (.ref 8), u1, u2, u3, u4] [] [w_i s0] I J b Q := by
  obtain ⟨h1, k⟩ := k
  refine w_iret rfl (w_nz1 h1) k
theorem b88_57 {xs : Nat → Int32} {xl : Nat} {I J : w_I} {b : Bool} {Q : Option Value → w_I → w_I → Bool → Prop} {l1 s0 : Int} {u2 u3 u4 : Option Value} (k : ((-2147483648 ≤ s0 ∧ s0 < 2147483648) ∧ ((¬ s0 = 0 → w_T xs xl 88 69 [some (.ref 8), some (w_i l1), some (w_i 0), some (w_i 0), some (w_i 0)] [] [] I J b Q) ∧ (s0 = 0 → Q (some (w_i 0)) I J b)))) : w_T xs xl 88 57 [some (.ref 8), some (w_i l1), u2, u3, u4] [] [w_i s0] I J b Q := by
  obtain ⟨h1, k⟩ := k
  refine w_zne (t := 62) (q := 60) rfl rfl rfl h1 (fun c2 => ?_) (fun c2 => ?_)
  · replace k := k.1 c2
    refine w_iconst (q := 63) rfl rfl ?_
    refine w_istore_n (q := 64) (L' := [some (.ref 8), some (w_i l1), some (w_i 0), u3, u4]) (M' := []) rfl rfl rfl rfl rfl ?_
    refine w_iconst (q := 65) rfl rfl ?_
    refine w_istore_n (q := 66) (L' := [some (.ref 8), some (w_i l1), some (w_i 0), some (w_i 0), u4]) (M' := []) rfl rfl rfl rfl rfl ?_
    refine w_iconst (q := 67) rfl rfl ?_
    refine w_istore (q := 69) (L' := [some (.ref 8), some (w_i l1), some (w_i 0), some (w_i 0), some (w_i 0)]) (M' := []) rfl rfl rfl rfl rfl ?_
    exact k
  · replace k := k.2 c2
    refine w_iconst (q := 61) rfl rfl ?_
    refine w_iret rfl rfl k
theorem b88_69 {xs : Nat → Int32} {xl : Nat} {I J : w_I} {b : Bool} {Q : Option Value → w_I → w_I → Bool → Prop} {l1 l2 l3 l4 : Int} (k : ((-2147483648 ≤ l4 ∧ l4 < 2147483648) ∧ ((400 < l4 → ((0 ≤ l1 ∧ l1 < 10) ∧ w_C xs xl 78 [.ref 8, w_i 4] (w_U (w_U I 14 l1 (I 9 9)) 9 8 (I 9 8 + 1)) J b (fun v Ic Jc bc => w_T xs xl 88 193 [some (.ref 8), some (w_i l1), some (w_i l2), some (w_i l3), some (w_i l4)] [] (w_pv v []) Ic Jc bc Q))) ∧ (¬ 400 < l4 → w_C xs xl 89 [.ref 8, w_i l2] I J b (fun v Ic Jc bc => w_T xs xl 88 82 [some (.ref 8), some (w_i l1), some (w_i l2), some (w_i l3), some (w_i l4)] [] (w_pv v []) Ic Jc bc Q))))) : w_T xs xl 88 69 [some (.ref 8), some (w_i l1), some (w_i l2), some (w_i l3), some (w_i l4)] [] [] I J b Q := by
  refine w_iload (q := 71) rfl rfl rfl ?_
  refine w_sipush (q := 74) rfl rfl rfl ?_
  obtain ⟨h1, k⟩ := k
  refine w_cgt (t := 159) (q := 77) rfl rfl rfl h1 (by decide) (fun c2 => ?_) (fun c2 => ?_)
  · replace k := k.1 c2
    refine w_aload_n (q := 160) rfl rfl rfl ?_
    refine w_gfr (q := 163) rfl rfl rfl rfl (j := 9) rfl ?_
    refine w_gfr (q := 166) rfl rfl rfl rfl (j := 14) rfl ?_
    refine w_iload_n (q := 167) rfl rfl rfl ?_
    refine w_aload_n (q := 168) rfl rfl rfl ?_
    refine w_gfr (q := 171) rfl rfl rfl rfl (j := 9) rfl ?_
    refine w_gfi (q := 174) (k' := 9) (v := I 9 9) rfl rfl rfl rfl rfl rfl rfl ?_
    obtain ⟨h3, k⟩ := k
    refine w_iast (q := 175) (n := 10) rfl rfl rfl rfl rfl h3 ?_
    refine w_aload_n (q := 176) rfl rfl rfl ?_
    refine w_gfr (q := 179) rfl rfl rfl rfl (j := 9) rfl ?_
    refine w_dup (q := 180) rfl rfl rfl ?_
    refine w_gfi (q := 183) (k' := 8) (v := I 9 8) rfl rfl rfl rfl rfl rfl rfl ?_
    refine w_iconst (q := 184) rfl rfl ?_
    refine w_iadd (q := 185) rfl rfl ?_
    refine w_pfi (q := 188) (k' := 8) rfl rfl rfl rfl ?_
    refine w_aload_n (q := 189) rfl rfl rfl ?_
    refine w_iconst (q := 190) rfl rfl ?_
    refine w_callv (q := 193) rfl rfl rfl rfl rfl rfl ?_
    exact k
  · replace k := k.2 c2
    refine w_aload_n (q := 78) rfl rfl rfl ?_
    refine w_iload_n (q := 79) rfl rfl rfl ?_
    refine w_callv (q := 82) rfl rfl rfl rfl rfl rfl ?_
    exact k
theorem b88_193 {xs : Nat → Int32} {xl : Nat} {I J : w_I} {b : Bool} {Q : Option Value → w_I → w_I → Bool → Prop} {u1 u2 u3 u4 : Option Value} {s0 : Int} (k : ((s0 = 0 ∨ s0 = 1) ∧ Q (some (w_i s0)) I J b)) : w_T xs xl 88 193 [some (.ref 8), u1, u2, u3, u4] [] [w_i s0] I J b Q := by
  obtain ⟨h1, k⟩ := k
  refine w_iret rfl (w_nz1 h1) k
theorem b88_82 {xs : Nat → Int32} {xl : Nat} {I J : w_I} {b : Bool} {Q : Option Value → w_I → w_I → Bool → Prop} {l1 l3 l4 s0 : Int} {u2 : Option Value} (k : ((-2147483648 ≤ s0 ∧ s0 < 2147483648) ∧ ((¬ s0 = 0 → ((0 ≤ I 8 9 ∧ I 8 9 < 402) ∧ ((-2147483648 ≤ I 15 (I 8 9) ∧ I 15 (I 8 9) < 2147483648) ∧ ((¬ I 15 (I 8 9) = 35 → ((-2147483648 ≤ l3 ∧ l3 < 2147483648) ∧ ((l3 = 0 → ((I 15 (I 8 9) = 34 → w_C xs xl 77 [.ref 8] I J b (fun v Ic Jc bc => w_T xs xl 88 148 [some (.ref 8), some (w_i l1), some (w_i 0), some (w_i 1), some (w_i l4)] [] (w_pv v []) Ic Jc bc Q)) ∧ (¬ I 15 (I 8 9) = 34 → ((0 ≤ l1 ∧ l1 < 10) ∧ w_C xs xl 78 [.ref 8, w_i 4] (w_U (w_U I 14 l1 (I 9 9)) 9 8 (I 9 8 + 1)) J b (fun v Ic Jc bc => w_T xs xl 88 193 [some (.ref 8), some (w_i l1), some (w_i 0), some (w_i 1), some (w_i l4)] [] (w_pv v []) Ic Jc bc Q))))) ∧ (¬ l3 = 0 → w_C xs xl 102 [.ref 9, w_i 20034] I J b (fun v Ic Jc bc => w_T xs xl 88 125 [some (.ref 8), some (w_i l1), some (w_i 0), some (w_i l3), some (w_i l4)] [] (w_pv v []) Ic Jc bc Q))))) ∧ (I 15 (I 8 9) = 35 → w_C xs xl 77 [.ref 8] I J b (fun v Ic Jc bc => w_T xs xl 88 148 [some (.ref 8), some (w_i l1), some (w_i 1), some (w_i l3), some (w_i l4)] [] (w_pv v []) Ic Jc bc Q)))))) ∧ (s0 = 0 → Q (some (w_i 0)) I J b)))) : w_T xs xl 88 82 [some (.ref 8), some (w_i l1), u2, some (w_i l3), some (w_i l4)] [] [w_i s0] I J b Q := by
  obtain ⟨h1, k⟩ := k
  refine w_zne (t := 87) (q := 85) rfl rfl rfl h1 (fun c2 => ?_) (fun c2 => ?_)
  · replace k := k.1 c2
    refine w_aload_n (q := 88) rfl rfl rfl ?_
    refine w_gfr (q := 91) rfl rfl rfl rfl (j := 15) rfl ?_
    refine w_aload_n (q := 92) rfl rfl rfl ?_
    refine w_gfi (q := 95) (k' := 9) (v := I 8 9) rfl rfl rfl rfl rfl rfl rfl ?_
    obtain ⟨h3, k⟩ := k
    refine w_iald (q := 96) (n := 402) (v := I 15 (I 8 9)) rfl rfl rfl rfl rfl rfl h3 ?_
    refine w_bipush (q := 98) rfl rfl rfl ?_
    obtain ⟨h4, k⟩ := k
    refine w_cne (t := 105) (q := 101) rfl rfl rfl h4 (by decide) (fun c5 => ?_) (fun c5 => ?_)
    · replace k := k.1 c5
      refine w_iconst (q := 106) rfl rfl ?_
      refine w_istore_n (q := 107) (L' := [some (.ref 8), some (w_i l1), some (w_i 0), some (w_i l3), some (w_i l4)]) (M' := []) rfl rfl rfl rfl rfl ?_
      refine w_iload_n (q := 108) rfl rfl rfl ?_
      refine w_zne (t := 144) (q := 111) rfl rfl rfl (by decide) (fun w => absurd w (by decide)) (fun _ => ?_)
      refine w_iload_n (q := 112) rfl rfl rfl ?_
      obtain ⟨h6, k⟩ := k
      refine w_zeq (t := 125) (q := 115) rfl rfl rfl h6 (fun c7 => ?_) (fun c7 => ?_)
      · replace k := k.1 c7
        refine w_iconst (q := 126) rfl rfl ?_
        refine w_istore_n (q := 127) (L' := [some (.ref 8), some (w_i l1), some (w_i 0), some (w_i 1), some (w_i l4)]) (M' := []) rfl rfl rfl rfl rfl ?_
        refine w_aload_n (q := 128) rfl rfl rfl ?_
        refine w_gfr (q := 131) rfl rfl rfl rfl (j := 15) rfl ?_
        refine w_aload_n (q := 132) rfl rfl rfl ?_
        refine w_gfi (q := 135) (k' := 9) (v := I 8 9) rfl rfl rfl rfl rfl rfl rfl ?_
        refine w_iald (q := 136) (n := 402) (v := I 15 (I 8 9)) rfl rfl rfl rfl rfl rfl h3 ?_
        refine w_bipush (q := 138) rfl rfl rfl ?_
        refine w_ceq (t := 144) (q := 141) rfl rfl rfl h4 (by decide) (fun c8 => ?_) (fun c8 => ?_)
        · replace k := k.1 c8
          refine w_aload_n (q := 145) rfl rfl rfl ?_
          refine w_callv (q := 148) rfl rfl rfl rfl rfl rfl ?_
          exact k
        · replace k := k.2 c8
          refine w_goto (t := 159) rfl rfl ?_
          refine w_aload_n (q := 160) rfl rfl rfl ?_
          refine w_gfr (q := 163) rfl rfl rfl rfl (j := 9) rfl ?_
          refine w_gfr (q := 166) rfl rfl rfl rfl (j := 14) rfl ?_
          refine w_iload_n (q := 167) rfl rfl rfl ?_
          refine w_aload_n (q := 168) rfl rfl rfl ?_
          refine w_gfr (q := 171) rfl rfl rfl rfl (j := 9) rfl ?_
          refine w_gfi (q := 174) (k' := 9) (v := I 9 9) rfl rfl rfl rfl rfl rfl rfl ?_
          obtain ⟨h9, k⟩ := k
          refine w_iast (q := 175) (n := 10) rfl rfl rfl rfl rfl h9 ?_
          refine w_aload_n (q := 176) rfl rfl rfl ?_
          refine w_gfr (q := 179) rfl rfl rfl rfl (j := 9) rfl ?_
          refine w_dup (q := 180) rfl rfl rfl ?_
          refine w_gfi (q := 183) (k' := 8) (v := I 9 8) rfl rfl rfl rfl rfl rfl rfl ?_
          refine w_iconst (q := 184) rfl rfl ?_
          refine w_iadd (q := 185) rfl rfl ?_
          refine w_pfi (q := 188) (k' := 8) rfl rfl rfl rfl ?_
          refine w_aload_n (q := 189) rfl rfl rfl ?_
          refine w_iconst (q := 190) rfl rfl ?_
          refine w_callv (q := 193) rfl rfl rfl rfl rfl rfl ?_
          exact k
      · replace k := k.2 c7
        refine w_aload_n (q := 116) rfl rfl rfl ?_
        refine w_gfr (q := 119) rfl rfl rfl rfl (j := 9) rfl ?_
        refine w_sipush (q := 122) rfl rfl rfl ?_
        refine w_callv (q := 125) rfl rfl rfl rfl rfl rfl ?_
        exact k
    · replace k := k.2 c5
      refine w_iconst (q := 102) rfl rfl ?_
      refine w_goto (t := 106) rfl rfl ?_
      refine w_istore_n (q := 107) (L' := [some (.ref 8), some (w_i l1), some (w_i 1), some (w_i l3), some (w_i l4)]) (M' := []) rfl rfl rfl rfl rfl ?_
      refine w_iload_n (q := 108) rfl rfl rfl ?_
      refine w_zne (t := 144) (q := 111) rfl rfl rfl (by decide) (fun _ => ?_) (fun w => absurd w (by decide))
      refine w_aload_n (q := 145) rfl rfl rfl ?_
      refine w_callv (q := 148) rfl rfl rfl rfl rfl rfl ?_
      exact k
  · replace k := k.2 c2
    refine w_iconst (q := 86) rfl rfl ?_
    refine w_iret rfl rfl k
theorem b88_148 {xs : Nat → Int32} {xl : Nat} {I J : w_I} {b : Bool} {Q : Option Value → w_I → w_I → Bool → Prop} {l1 l2 l3 l4 s0 : Int} (k : ((-2147483648 ≤ s0 ∧ s0 < 2147483648) ∧ ((¬ s0 = 0 → w_T xs xl 88 69 [some (.ref 8), some (w_i l1), some (w_i l2), some (w_i l3), some (w_i (l4 + 1))] [] [] I J b Q) ∧ (s0 = 0 → Q (some (w_i 0)) I J b)))) : w_T xs xl 88 148 [some (.ref 8), some (w_i l1), some (w_i l2), some (w_i l3), some (w_i l4)] [] [w_i s0] I J b Q := by
  obtain ⟨h1, k⟩ := k
  refine w_zne (t := 153) (q := 151) rfl rfl rfl h1 (fun c2 => ?_) (fun c2 => ?_)
  · replace k := k.1 c2
    refine w_iinc (q := 156) (L' := [some (.ref 8), some (w_i l1), some (w_i l2), some (w_i l3), some (w_i (l4 + 1))]) (M' := []) rfl rfl rfl rfl rfl rfl ?_
    refine w_goto (t := 69) rfl rfl ?_
    exact k
  · replace k := k.2 c2
    refine w_iconst (q := 152) rfl rfl ?_
    refine w_iret rfl rfl k
theorem b88_125 {xs : Nat → Int32} {xl : Nat} {I J : w_I} {b : Bool} {Q : Option Value → w_I → w_I → Bool → Prop} {l1 l2 l4 : Int} {u3 : Option Value} (k : ((0 ≤ I 8 9 ∧ I 8 9 < 402) ∧ ((-2147483648 ≤ I 15 (I 8 9) ∧ I 15 (I 8 9) < 2147483648) ∧ ((I 15 (I 8 9) = 34 → w_C xs xl 77 [.ref 8] I J b (fun v Ic Jc bc => w_T xs xl 88 148 [some (.ref 8), some (w_i l1), some (w_i l2), some (w_i 1), some (w_i l4)] [] (w_pv v []) Ic Jc bc Q)) ∧ (¬ I 15 (I 8 9) = 34 → ((0 ≤ l1 ∧ l1 < 10) ∧ w_C xs xl 78 [.ref 8, w_i 4] (w_U (w_U I 14 l1 (I 9 9)) 9 8 (I 9 8 + 1)) J b (fun v Ic Jc bc => w_T xs xl 88 193 [some (.ref 8), some (w_i l1), some (w_i l2), some (w_i 1), some (w_i l4)] [] (w_pv v []) Ic Jc bc Q))))))) : w_T xs xl 88 125 [some (.ref 8), some (w_i l1), some (w_i l2), u3, some (w_i l4)] [] [] I J b Q := by
  refine w_iconst (q := 126) rfl rfl ?_
  refine w_istore_n (q := 127) (L' := [some (.ref 8), some (w_i l1), some (w_i l2), some (w_i 1), some (w_i l4)]) (M' := []) rfl rfl rfl rfl rfl ?_
  refine w_aload_n (q := 128) rfl rfl rfl ?_
  refine w_gfr (q := 131) rfl rfl rfl rfl (j := 15) rfl ?_
  refine w_aload_n (q := 132) rfl rfl rfl ?_
  refine w_gfi (q := 135) (k' := 9) (v := I 8 9) rfl rfl rfl rfl rfl rfl rfl ?_
  obtain ⟨h1, k⟩ := k
  refine w_iald (q := 136) (n := 402) (v := I 15 (I 8 9)) rfl rfl rfl rfl rfl rfl h1 ?_
  refine w_bipush (q := 138) rfl rfl rfl ?_
  obtain ⟨h2, k⟩ := k
  refine w_ceq (t := 144) (q := 141) rfl rfl rfl h2 (by decide) (fun c3 => ?_) (fun c3 => ?_)
  · replace k := k.1 c3
    refine w_aload_n (q := 145) rfl rfl rfl ?_
    refine w_callv (q := 148) rfl rfl rfl rfl rfl rfl ?_
    exact k
  · replace k := k.2 c3
    refine w_goto (t := 159) rfl rfl ?_
    refine w_aload_n (q := 160) rfl rfl rfl ?_
    refine w_gfr (q := 163) rfl rfl rfl rfl (j := 9) rfl ?_
    refine w_gfr (q := 166) rfl rfl rfl rfl (j := 14) rfl ?_
    refine w_iload_n (q := 167) rfl rfl rfl ?_
    refine w_aload_n (q := 168) rfl rfl rfl ?_
    refine w_gfr (q := 171) rfl rfl rfl rfl (j := 9) rfl ?_
    refine w_gfi (q := 174) (k' := 9) (v := I 9 9) rfl rfl rfl rfl rfl rfl rfl ?_
    obtain ⟨h4, k⟩ := k
    refine w_iast (q := 175) (n := 10) rfl rfl rfl rfl rfl h4 ?_
    refine w_aload_n (q := 176) rfl rfl rfl ?_
    refine w_gfr (q := 179) rfl rfl rfl rfl (j := 9) rfl ?_
    refine w_dup (q := 180) rfl rfl rfl ?_
    refine w_gfi (q := 183) (k' := 8) (v := I 9 8) rfl rfl rfl rfl rfl rfl rfl ?_
    refine w_iconst (q := 184) rfl rfl ?_
    refine w_iadd (q := 185) rfl rfl ?_
    refine w_pfi (q := 188) (k' := 8) rfl rfl rfl rfl ?_
    refine w_aload_n (q := 189) rfl rfl rfl ?_
    refine w_iconst (q := 190) rfl rfl ?_
    refine w_callv (q := 193) rfl rfl rfl rfl rfl rfl ?_
    exact k
theorem e89 {xs : Nat → Int32} {xl : Nat} {I J : w_I} {b : Bool} {Q : Option Value → w_I → w_I → Bool → Prop} {a1 : Int} (t : w_T xs xl 89 0 [some (.ref 8), some (w_i a1), none, none] [] [] I J b Q) : w_C xs xl 89 [.ref 8, w_i a1] I J b Q := w_en rfl t
theorem b89_0 {xs : Nat → Int32} {xl : Nat} {I J : w_I} {b : Bool} {Q : Option Value → w_I → w_I → Bool → Prop} {a1 : Int} (k : w_T xs xl 89 4 [some (.ref 8), some (w_i a1), some (w_i 0), some (w_i 0)] [] [] I J b Q) : w_T xs xl 89 0 [some (.ref 8), some (w_i a1), none, none] [] [] I J b Q := by
  refine w_iconst (q := 1) rfl rfl ?_
  refine w_istore_n (q := 2) (L' := [some (.ref 8), some (w_i a1), some (w_i 0), none]) (M' := []) rfl rfl rfl rfl rfl ?_
  refine w_iconst (q := 3) rfl rfl ?_
  refine w_istore_n (q := 4) (L' := [some (.ref 8), some (w_i a1), some (w_i 0), some (w_i 0)]) (M' := []) rfl rfl rfl rfl rfl ?_
  exact k
theorem b89_4 {xs : Nat → Int32} {xl : Nat} {I J : w_I} {b : Bool} {Q : Option Value → w_I → w_I → Bool → Prop} {l1 l2 l3 : Int} (k : ((-2147483648 ≤ l3 ∧ l3 < 2147483648) ∧ ((400 < l3 → w_C xs xl 90 [.ref 8] I J b (fun v Ic Jc bc => w_T xs xl 89 54 [some (.ref 8), some (w_i l1), some (w_i l2), some (w_i l3)] [] (w_pv v []) Ic Jc bc Q)) ∧ (¬ 400 < l3 → ((0 ≤ I 8 9 ∧ I 8 9 < 402) ∧ ((-2147483648 ≤ I 15 (I 8 9) ∧ I 15 (I 8 9) < 2147483648) ∧ ((¬ I 15 (I 8 9) = 36 → w_C xs xl 90 [.ref 8] I J b (fun v Ic Jc bc => w_T xs xl 89 54 [some (.ref 8), some (w_i l1), some (w_i l2), some (w_i l3)] [] (w_pv v []) Ic Jc bc Q)) ∧ (I 15 (I 8 9) = 36 → ((-2147483648 ≤ l2 ∧ l2 < 2147483648) ∧ ((¬ l2 = 0 → w_C xs xl 77 [.ref 8] I J b (fun v Ic Jc bc => w_T xs xl 89 39 [some (.ref 8), some (w_i l1), some (w_i 0), some (w_i l3)] [] (w_pv v []) Ic Jc bc Q)) ∧ (l2 = 0 → w_C xs xl 77 [.ref 8] I J b (fun v Ic Jc bc => w_T xs xl 89 39 [some (.ref 8), some (w_i l1), some (w_i 1), some (w_i l3)] [] (w_pv v []) Ic Jc bc Q)))))))))))) : w_T xs xl 89 4 [some (.ref 8), some (w_i l1), some (w_i l2), some (w_i l3)] [] [] I J b Q := by
  refine w_iload_n (q := 5) rfl rfl rfl ?_
  refine w_sipush (q := 8) rfl rfl rfl ?_
  obtain ⟨h1, k⟩ := k
  refine w_cgt (t := 50) (q := 11) rfl rfl rfl h1 (by decide) (fun c2 => ?_) (fun c2 => ?_)
  · replace k := k.1 c2
    refine w_aload_n (q := 51) rfl rfl rfl ?_
    refine w_callv (q := 54) rfl rfl rfl rfl rfl rfl ?_
    exact k
  · replace k := k.2 c2
    refine w_aload_n (q := 12) rfl rfl rfl ?_
    refine w_gfr (q := 15) rfl rfl rfl rfl (j := 15) rfl ?_
    refine w_aload_n (q := 16) rfl rfl rfl ?_
    refine w_gfi (q := 19) (k' := 9) (v := I 8 9) rfl rfl rfl rfl rfl rfl rfl ?_
    obtain ⟨h3, k⟩ := k
    refine w_iald (q := 20) (n := 402) (v := I 15 (I 8 9)) rfl rfl rfl rfl rfl rfl h3 ?_
    refine w_bipush (q := 22) rfl rfl rfl ?_
    obtain ⟨h4, k⟩ := k
    refine w_cne (t := 50) (q := 25) rfl rfl rfl h4 (by decide) (fun c5 => ?_) (fun c5 => ?_)
    · replace k := k.1 c5
      refine w_aload_n (q := 51) rfl rfl rfl ?_
      refine w_callv (q := 54) rfl rfl rfl rfl rfl rfl ?_
      exact k
    · replace k := k.2 c5
      refine w_iload_n (q := 26) rfl rfl rfl ?_
      obtain ⟨h6, k⟩ := k
      refine w_zne (t := 33) (q := 29) rfl rfl rfl h6 (fun c7 => ?_) (fun c7 => ?_)
      · replace k := k.1 c7
        refine w_iconst (q := 34) rfl rfl ?_
        refine w_istore_n (q := 35) (L' := [some (.ref 8), some (w_i l1), some (w_i 0), some (w_i l3)]) (M' := []) rfl rfl rfl rfl rfl ?_
        refine w_aload_n (q := 36) rfl rfl rfl ?_
        refine w_callv (q := 39) rfl rfl rfl rfl rfl rfl ?_
        exact k
      · replace k := k.2 c7
        refine w_iconst (q := 30) rfl rfl ?_
        refine w_goto (t := 34) rfl rfl ?_
        refine w_istore_n (q := 35) (L' := [some (.ref 8), some (w_i l1), some (w_i 1), some (w_i l3)]) (M' := []) rfl rfl rfl rfl rfl ?_
        refine w_aload_n (q := 36) rfl rfl rfl ?_
        refine w_callv (q := 39) rfl rfl rfl rfl rfl rfl ?_
        exact k
theorem b89_54 {xs : Nat → Int32} {xl : Nat} {I J : w_I} {b : Bool} {Q : Option Value → w_I → w_I → Bool → Prop} {l1 l2 s0 : Int} {u3 : Option Value} (k : ((-2147483648 ≤ s0 ∧ s0 < 2147483648) ∧ ((¬ s0 = 0 → ((0 ≤ I 8 9 ∧ I 8 9 < 402) ∧ ((-2147483648 ≤ I 15 (I 8 9) ∧ I 15 (I 8 9) < 2147483648) ∧ ((I 15 (I 8 9) < 10 → w_C xs xl 76 [.ref 8, w_i 1] I J b (fun v Ic Jc bc => w_T xs xl 89 86 [some (.ref 8), some (w_i l1), some (w_i l2), some (w_i (I 15 (I 8 9)))] [] (w_pv v []) Ic Jc bc Q)) ∧ (¬ I 15 (I 8 9) < 10 → ((I 15 (I 8 9) ≤ 13 → w_C xs xl 77 [.ref 8] I J b (fun v Ic Jc bc => w_T xs xl 89 91 [some (.ref 8), some (w_i l1), some (w_i l2), some (w_i (I 15 (I 8 9)))] [] (w_pv v []) Ic Jc bc Q)) ∧ (¬ I 15 (I 8 9) ≤ 13 → w_C xs xl 76 [.ref 8, w_i 1] I J b (fun v Ic Jc bc => w_T xs xl 89 86 [some (.ref 8), some (w_i l1), some (w_i l2), some (w_i (I 15 (I 8 9)))] [] (w_pv v []) Ic Jc bc Q)))))))) ∧ (s0 = 0 → Q (some (w_i 0)) I J b)))) : w_T xs xl 89 54 [some (.ref 8), some (w_i l1), some (w_i l2), u3] [] [w_i s0] I J b Q := by
  obtain ⟨h1, k⟩ := k
  refine w_zne (t := 59) (q := 57) rfl rfl rfl h1 (fun c2 => ?_) (fun c2 => ?_)
  · replace k := k.1 c2
    refine w_aload_n (q := 60) rfl rfl rfl ?_
    refine w_gfr (q := 63) rfl rfl rfl rfl (j := 15) rfl ?_
    refine w_aload_n (q := 64) rfl rfl rfl ?_
    refine w_gfi (q := 67) (k' := 9) (v := I 8 9) rfl rfl rfl rfl rfl rfl rfl ?_
    obtain ⟨h3, k⟩ := k
    refine w_iald (q := 68) (n := 402) (v := I 15 (I 8 9)) rfl rfl rfl rfl rfl rfl h3 ?_
    refine w_istore_n (q := 69) (L' := [some (.ref 8), some (w_i l1), some (w_i l2), some (w_i (I 15 (I 8 9)))]) (M' := []) rfl rfl rfl rfl rfl ?_
    refine w_iload_n (q := 70) rfl rfl rfl ?_
    refine w_bipush (q := 72) rfl rfl rfl ?_
    obtain ⟨h4, k⟩ := k
    refine w_clt (t := 81) (q := 75) rfl rfl rfl h4 (by decide) (fun c5 => ?_) (fun c5 => ?_)
    · replace k := k.1 c5
      refine w_aload_n (q := 82) rfl rfl rfl ?_
      refine w_iconst (q := 83) rfl rfl ?_
      refine w_callv (q := 86) rfl rfl rfl rfl rfl rfl ?_
      exact k
    · replace k := k.2 c5
      refine w_iload_n (q := 76) rfl rfl rfl ?_
      refine w_bipush (q := 78) rfl rfl rfl ?_
      refine w_cle (t := 87) (q := 81) rfl rfl rfl h4 (by decide) (fun c6 => ?_) (fun c6 => ?_)
      · replace k := k.1 c6
        refine w_aload_n (q := 88) rfl rfl rfl ?_
        refine w_callv (q := 91) rfl rfl rfl rfl rfl rfl ?_
        exact k
      · replace k := k.2 c6
        refine w_aload_n (q := 82) rfl rfl rfl ?_
        refine w_iconst (q := 83) rfl rfl ?_
        refine w_callv (q := 86) rfl rfl rfl rfl rfl rfl ?_
        exact k
  · replace k := k.2 c2
    refine w_iconst (q := 58) rfl rfl ?_
    refine w_iret rfl rfl k
theorem b89_39 {xs : Nat → Int32} {xl : Nat} {I J : w_I} {b : Bool} {Q : Option Value → w_I → w_I → Bool → Prop} {l1 l2 l3 s0 : Int} (k : ((-2147483648 ≤ s0 ∧ s0 < 2147483648) ∧ ((¬ s0 = 0 → w_T xs xl 89 4 [some (.ref 8), some (w_i l1), some (w_i l2), some (w_i (l3 + 1))] [] [] I J b Q) ∧ (s0 = 0 → Q (some (w_i 0)) I J b)))) : w_T xs xl 89 39 [some (.ref 8), some (w_i l1), some (w_i l2), some (w_i l3)] [] [w_i s0] I J b Q := by
  obtain ⟨h1, k⟩ := k
  refine w_zne (t := 44) (q := 42) rfl rfl rfl h1 (fun c2 => ?_) (fun c2 => ?_)
  · replace k := k.1 c2
    refine w_iinc (q := 47) (L' := [some (.ref 8), some (w_i l1), some (w_i l2), some (w_i (l3 + 1))]) (M' := []) rfl rfl rfl rfl rfl rfl ?_
    refine w_goto (t := 4) rfl rfl ?_
    exact k
  · replace k := k.2 c2
    refine w_iconst (q := 43) rfl rfl ?_
    refine w_iret rfl rfl k
theorem b89_86 {xs : Nat → Int32} {xl : Nat} {I J : w_I} {b : Bool} {Q : Option Value → w_I → w_I → Bool → Prop} {u1 u2 u3 : Option Value} {s0 : Int} (k : ((s0 = 0 ∨ s0 = 1) ∧ Q (some (w_i s0)) I J b)) : w_T xs xl 89 86 [some (.ref 8), u1, u2, u3] [] [w_i s0] I J b Q := by
  obtain ⟨h1, k⟩ := k
  refine w_iret rfl (w_nz1 h1) k
theorem b89_91 {xs : Nat → Int32} {xl : Nat} {I J : w_I} {b : Bool} {Q : Option Value → w_I → w_I → Bool → Prop} {l1 l2 l3 s0 : Int} (k : ((-2147483648 ≤ s0 ∧ s0 < 2147483648) ∧ ((s0 = 0 → Q (some (w_i 0)) I J b) ∧ (¬ s0 = 0 → w_C xs xl 90 [.ref 8] I J b (fun v Ic Jc bc => w_T xs xl 89 98 [some (.ref 8), some (w_i l1), some (w_i l2), some (w_i l3)] [] (w_pv v []) Ic Jc bc Q))))) : w_T xs xl 89 91 [some (.ref 8), some (w_i l1), some (w_i l2), some (w_i l3)] [] [w_i s0] I J b Q := by
  obtain ⟨h1, k⟩ := k
  refine w_zeq (t := 101) (q := 94) rfl rfl rfl h1 (fun c2 => ?_) (fun c2 => ?_)
  · replace k := k.1 c2
    refine w_iconst (q := 102) rfl rfl ?_
    refine w_iret rfl rfl k
  · replace k := k.2 c2
    refine w_aload_n (q := 95) rfl rfl rfl ?_
    refine w_callv (q := 98) rfl rfl rfl rfl rfl rfl ?_
    exact k
theorem b89_98 {xs : Nat → Int32} {xl : Nat} {I J : w_I} {b : Bool} {Q : Option Value → w_I → w_I → Bool → Prop} {l1 l2 l3 s0 : Int} (k : ((-2147483648 ≤ s0 ∧ s0 < 2147483648) ∧ ((¬ s0 = 0 → w_C xs xl 102 [.ref 9, w_i (20000 + l3)] I J b (fun v Ic Jc bc => w_T xs xl 89 115 [some (.ref 8), some (w_i l1), some (w_i l2), some (w_i l3)] [] (w_pv v []) Ic Jc bc Q)) ∧ (s0 = 0 → Q (some (w_i 0)) I J b)))) : w_T xs xl 89 98 [some (.ref 8), some (w_i l1), some (w_i l2), some (w_i l3)] [] [w_i s0] I J b Q := by
  obtain ⟨h1, k⟩ := k
  refine w_zne (t := 103) (q := 101) rfl rfl rfl h1 (fun c2 => ?_) (fun c2 => ?_)
  · replace k := k.1 c2
    refine w_aload_n (q := 104) rfl rfl rfl ?_
    refine w_gfr (q := 107) rfl rfl rfl rfl (j := 9) rfl ?_
    refine w_sipush (q := 110) rfl rfl rfl ?_
    refine w_iload_n (q := 111) rfl rfl rfl ?_
    refine w_iadd (q := 112) rfl rfl ?_
    refine w_callv (q := 115) rfl rfl rfl rfl rfl rfl ?_
    exact k
  · replace k := k.2 c2
    refine w_iconst (q := 102) rfl rfl ?_
    refine w_iret rfl rfl k
theorem b89_115 {xs : Nat → Int32} {xl : Nat} {I J : w_I} {b : Bool} {Q : Option Value → w_I → w_I → Bool → Prop} {l1 l2 : Int} {u3 : Option Value} (k : ((-2147483648 ≤ l2 ∧ l2 < 2147483648) ∧ ((l2 = 0 → ((-2147483648 ≤ l1 ∧ l1 < 2147483648) ∧ ((l1 = 0 → Q (some (w_i 1)) I J b) ∧ (¬ l1 = 0 → w_C xs xl 102 [.ref 9, w_i 20035] I J b (fun v Ic Jc bc => w_T xs xl 89 143 [some (.ref 8), some (w_i l1), some (w_i l2), u3] [] (w_pv v []) Ic Jc bc Q))))) ∧ (¬ l2 = 0 → w_C xs xl 102 [.ref 9, w_i 20036] I J b (fun v Ic Jc bc => w_T xs xl 89 129 [some (.ref 8), some (w_i l1), some (w_i l2), u3] [] (w_pv v []) Ic Jc bc Q))))) : w_T xs xl 89 115 [some (.ref 8), some (w_i l1), some (w_i l2), u3] [] [] I J b Q := by
  refine w_iload_n (q := 116) rfl rfl rfl ?_
  obtain ⟨h1, k⟩ := k
  refine w_zeq (t := 129) (q := 119) rfl rfl rfl h1 (fun c2 => ?_) (fun c2 => ?_)
  · replace k := k.1 c2
    refine w_iload_n (q := 130) rfl rfl rfl ?_
    obtain ⟨h3, k⟩ := k
    refine w_zeq (t := 143) (q := 133) rfl rfl rfl h3 (fun c4 => ?_) (fun c4 => ?_)
    · replace k := k.1 c4
      refine w_iconst (q := 144) rfl rfl ?_
      refine w_iret rfl rfl k
    · replace k := k.2 c4
      refine w_aload_n (q := 134) rfl rfl rfl ?_
      refine w_gfr (q := 137) rfl rfl rfl rfl (j := 9) rfl ?_
      refine w_sipush (q := 140) rfl rfl rfl ?_
      refine w_callv (q := 143) rfl rfl rfl rfl rfl rfl ?_
      exact k
  · replace k := k.2 c2
    refine w_aload_n (q := 120) rfl rfl rfl ?_
    refine w_gfr (q := 123) rfl rfl rfl rfl (j := 9) rfl ?_
    refine w_sipush (q := 126) rfl rfl rfl ?_
    refine w_callv (q := 129) rfl rfl rfl rfl rfl rfl ?_
    exact k
theorem b89_143 {xs : Nat → Int32} {xl : Nat} {I J : w_I} {b : Bool} {Q : Option Value → w_I → w_I → Bool → Prop} {u1 u2 u3 : Option Value} (k : Q (some (w_i 1)) I J b) : w_T xs xl 89 143 [some (.ref 8), u1, u2, u3] [] [] I J b Q := by
  refine w_iconst (q := 144) rfl rfl ?_
  refine w_iret rfl rfl k
theorem b89_129 {xs : Nat → Int32} {xl : Nat} {I J : w_I} {b : Bool} {Q : Option Value → w_I → w_I → Bool → Prop} {l1 : Int} {u2 u3 : Option Value} (k : ((-2147483648 ≤ l1 ∧ l1 < 2147483648) ∧ ((l1 = 0 → Q (some (w_i 1)) I J b) ∧ (¬ l1 = 0 → w_C xs xl 102 [.ref 9, w_i 20035] I J b (fun v Ic Jc bc => w_T xs xl 89 143 [some (.ref 8), some (w_i l1), u2, u3] [] (w_pv v []) Ic Jc bc Q))))) : w_T xs xl 89 129 [some (.ref 8), some (w_i l1), u2, u3] [] [] I J b Q := by
  refine w_iload_n (q := 130) rfl rfl rfl ?_
  obtain ⟨h1, k⟩ := k
  refine w_zeq (t := 143) (q := 133) rfl rfl rfl h1 (fun c2 => ?_) (fun c2 => ?_)
  · replace k := k.1 c2
    refine w_iconst (q := 144) rfl rfl ?_
    refine w_iret rfl rfl k
  · replace k := k.2 c2
    refine w_aload_n (q := 134) rfl rfl rfl ?_
    refine w_gfr (q := 137) rfl rfl rfl rfl (j := 9) rfl ?_
    refine w_sipush (q := 140) rfl rfl rfl ?_
    refine w_callv (q := 143) rfl rfl rfl rfl rfl rfl ?_
    exact k
theorem e90 {xs : Nat → Int32} {xl : Nat} {I J : w_I} {b : Bool} {Q : Option Value → w_I → w_I → Bool → Prop} (t : w_T xs xl 90 0 [some (.ref 8), none, none, none, none] [] [] I J b Q) : w_C xs xl 90 [.ref 8] I J b Q := w_en rfl t
theorem b90_0 {xs : Nat → Int32} {xl : Nat} {I J : w_I} {b : Bool} {Q : Option Value → w_I → w_I → Bool → Prop} (k : w_T xs xl 90 11 [some (.ref 8), some (w_i 0), some (w_i 1), some (w_i 0), none] [] [] (w_U I 8 7 0) J b Q) : w_T xs xl 90 0 [some (.ref 8), none, none, none, none] [] [] I J b Q := by
  refine w_aload_n (q := 1) rfl rfl rfl ?_
  refine w_iconst (q := 2) rfl rfl ?_
  refine w_pfi (q := 5) (k' := 7) rfl rfl rfl rfl ?_
  refine w_iconst (q := 6) rfl rfl ?_
  refine w_istore_n (q := 7) (L' := [some (.ref 8), some (w_i 0), none, none, none]) (M' := []) rfl rfl rfl rfl rfl ?_
  refine w_iconst (q := 8) rfl rfl ?_
  refine w_istore_n (q := 9) (L' := [some (.ref 8), some (w_i 0), some (w_i 1), none, none]) (M' := []) rfl rfl rfl rfl rfl ?_
  refine w_iconst (q := 10) rfl rfl ?_
  refine w_istore_n (q := 11) (L' := [some (.ref 8), some (w_i 0), some (w_i 1), some (w_i 0), none]) (M' := []) rfl rfl rfl rfl rfl ?_
  exact k
theorem b90_11 {xs : Nat → Int32} {xl : Nat} {I J : w_I} {b : Bool} {Q : Option Value → w_I → w_I → Bool → Prop} {l1 l2 l3 : Int} {u4 : Option Value} (k : ((-2147483648 ≤ l3 ∧ l3 < 2147483648) ∧ ((400 < l3 → w_C xs xl 76 [.ref 8, w_i 1] I J b (fun v Ic Jc bc => w_T xs xl 90 187 [some (.ref 8), some (w_i l1), some (w_i l2), some (w_i l3), u4] [] (w_pv v []) Ic Jc bc Q)) ∧ (¬ 400 < l3 → ((0 ≤ I 8 9 ∧ I 8 9 < 402) ∧ ((-2147483648 ≤ l2 ∧ l2 < 2147483648) ∧ ((l2 = 0 → ((l2 = 0 → ((-2147483648 ≤ I 15 (I 8 9) ∧ I 15 (I 8 9) < 2147483648) ∧ ((I 15 (I 8 9) < 6 → ((-2147483648 ≤ l1 ∧ l1 < 2147483648) ∧ ((¬ l1 = 0 → ((¬ I 15 (I 8 9) = 15 → w_C xs xl 76 [.ref 8, w_i 1] I J b (fun v Ic Jc bc => w_T xs xl 90 166 [some (.ref 8), some (w_i l1), some (w_i l2), some (w_i l3), some (w_i (I 15 (I 8 9)))] [] (w_pv v []) Ic Jc bc Q)) ∧ (I 15 (I 8 9) = 15 → w_C xs xl 93 [.ref 8, w_i 1] I J b (fun v Ic Jc bc => w_T xs xl 90 145 [some (.ref 8), some (w_i l1), some (w_i l2), some (w_i l3), some (w_i (I 15 (I 8 9)))] [] (w_pv v []) Ic Jc bc Q)))) ∧ (l1 = 0 → w_C xs xl 93 [.ref 8, w_i 1] I J b (fun v Ic Jc bc => w_T xs xl 90 131 [some (.ref 8), some (w_i l1), some (w_i l2), some (w_i l3), some (w_i (I 15 (I 8 9)))] [] (w_pv v []) Ic Jc bc Q))))) ∧ (¬ I 15 (I 8 9) < 6 → ((9 < I 15 (I 8 9) → ((-2147483648 ≤ l1 ∧ l1 < 2147483648) ∧ ((¬ l1 = 0 → ((¬ I 15 (I 8 9) = 15 → w_C xs xl 76 [.ref 8, w_i 1] I J b (fun v Ic Jc bc => w_T xs xl 90 166 [some (.ref 8), some (w_i l1), some (w_i l2), some (w_i l3), some (w_i (I 15 (I 8 9)))] [] (w_pv v []) Ic Jc bc Q)) ∧ (I 15 (I 8 9) = 15 → w_C xs xl 93 [.ref 8, w_i 1] I J b (fun v Ic Jc bc => w_T xs xl 90 145 [some (.ref 8), some (w_i l1), some (w_i l2), some (w_i l3), some (w_i (I 15 (I 8 9)))] [] (w_pv v []) Ic Jc bc Q)))) ∧ (l1 = 0 → w_C xs xl 93 [.ref 8, w_i 1] I J b (fun v Ic Jc bc => w_T xs xl 90 131 [some (.ref 8), some (w_i l1), some (w_i l2), some (w_i l3), some (w_i (I 15 (I 8 9)))] [] (w_pv v []) Ic Jc bc Q))))) ∧ (¬ 9 < I 15 (I 8 9) → w_C xs xl 94 [w_i (I 15 (I 8 9))] I J b (fun v Ic Jc bc => w_T xs xl 90 108 [some (.ref 8), some (w_i l1), some (w_i l2), some (w_i l3), some (w_i (I 15 (I 8 9)))] [] (w_pv v [.ref 8]) Ic Jc bc Q))))))) ∧ (¬ l2 = 0 → w_C xs xl 91 [.ref 8, w_i (I 15 (I 8 9))] I J b (fun v Ic Jc bc => w_T xs xl 90 74 [some (.ref 8), some (w_i l1), some (w_i l2), some (w_i l3), some (w_i (I 15 (I 8 9)))] [] (w_pv v []) Ic Jc bc Q)))) ∧ (¬ l2 = 0 → ((-2147483648 ≤ I 15 (I 8 9) ∧ I 15 (I 8 9) < 2147483648) ∧ ((¬ I 15 (I 8 9) = 14 → ((l2 = 0 → ((I 15 (I 8 9) < 6 → ((-2147483648 ≤ l1 ∧ l1 < 2147483648) ∧ ((¬ l1 = 0 → ((¬ I 15 (I 8 9) = 15 → w_C xs xl 76 [.ref 8, w_i 1] I J b (fun v Ic Jc bc => w_T xs xl 90 166 [some (.ref 8), some (w_i l1), some (w_i l2), some (w_i l3), some (w_i (I 15 (I 8 9)))] [] (w_pv v []) Ic Jc bc Q)) ∧ (I 15 (I 8 9) = 15 → w_C xs xl 93 [.ref 8, w_i 1] I J b (fun v Ic Jc bc => w_T xs xl 90 145 [some (.ref 8), some (w_i l1), some (w_i l2), some (w_i l3), some (w_i (I 15 (I 8 9)))] [] (w_pv v []) Ic Jc bc Q)))) ∧ (l1 = 0 → w_C xs xl 93 [.ref 8, w_i 1] I J b (fun v Ic Jc bc => w_T xs xl 90 131 [some (.ref 8), some (w_i l1), some (w_i l2), some (w_i l3), some (w_i (I 15 (I 8 9)))] [] (w_pv v []) Ic Jc bc Q))))) ∧ (¬ I 15 (I 8 9) < 6 → ((9 < I 15 (I 8 9) → ((-2147483648 ≤ l1 ∧ l1 < 2147483648) ∧ ((¬ l1 = 0 → ((¬ I 15 (I 8 9) = 15 → w_C xs xl 76 [.ref 8, w_i 1] I J b (fun v Ic Jc bc => w_T xs xl 90 166 [some (.ref 8), some (w_i l1), some (w_i l2), some (w_i l3), some (w_i (I 15 (I 8 9)))] [] (w_pv v []) Ic Jc bc Q)) ∧ (I 15 (I 8 9) = 15 → w_C xs xl 93 [.ref 8, w_i 1] I J b (fun v Ic Jc bc => w_T xs xl 90 145 [some (.ref 8), some (w_i l1), some (w_i l2), some (w_i l3), some (w_i (I 15 (I 8 9)))] [] (w_pv v []) Ic Jc bc Q)))) ∧ (l1 = 0 → w_C xs xl 93 [.ref 8, w_i 1] I J b (fun v Ic Jc bc => w_T xs xl 90 131 [some (.ref 8), some (w_i l1), some (w_i l2), some (w_i l3), some (w_i (I 15 (I 8 9)))] [] (w_pv v []) Ic Jc bc Q))))) ∧ (¬ 9 < I 15 (I 8 9) → w_C xs xl 94 [w_i (I 15 (I 8 9))] I J b (fun v Ic Jc bc => w_T xs xl 90 108 [some (.ref 8), some (w_i l1), some (w_i l2), some (w_i l3), some (w_i (I 15 (I 8 9)))] [] (w_pv v [.ref 8]) Ic Jc bc Q)))))) ∧ (¬ l2 = 0 → w_C xs xl 91 [.ref 8, w_i (I 15 (I 8 9))] I J b (fun v Ic Jc bc => w_T xs xl 90 74 [some (.ref 8), some (w_i l1), some (w_i l2), some (w_i l3), some (w_i (I 15 (I 8 9)))] [] (w_pv v []) Ic Jc bc Q)))) ∧ (I 15 (I 8 9) = 14 → ((-2147483648 ≤ l1 ∧ l1 < 2147483648) ∧ ((l1 < 6 → w_C xs xl 92 [.ref 8, w_i 14] I J b (fun v Ic Jc bc => w_T xs xl 90 61 [some (.ref 8), some (w_i (l1 + 1)), some (w_i l2), some (w_i l3), some (w_i (I 15 (I 8 9)))] [] (w_pv v []) Ic Jc bc Q)) ∧ (¬ l1 < 6 → w_C xs xl 76 [.ref 8, w_i 2] I J b (fun v Ic Jc bc => w_T xs xl 90 51 [some (.ref 8), some (w_i l1), some (w_i l2), some (w_i l3), some (w_i (I 15 (I 8 9)))] [] (w_pv v []) Ic Jc bc Q))))))))))))))) : w_T xs xl 90 11 [some (.ref 8), some (w_i l1), some (w_i l2), some (w_i l3), u4] [] [] I J b Q := by
  refine w_iload_n (q := 12) rfl rfl rfl ?_
  refine w_sipush (q := 15) rfl rfl rfl ?_
  obtain ⟨h1, k⟩ := k
  refine w_cgt (t := 182) (q := 18) rfl rfl rfl h1 (by decide) (fun c2 => ?_) (fun c2 => ?_)
  · replace k := k.1 c2
    refine w_aload_n (q := 183) rfl rfl rfl ?_
    refine w_iconst (q := 184) rfl rfl ?_
    refine w_callv (q := 187) rfl rfl rfl rfl rfl rfl ?_
    exact k
  · replace k := k.2 c2
    refine w_aload_n (q := 19) rfl rfl rfl ?_
    refine w_gfr (q := 22) rfl rfl rfl rfl (j := 15) rfl ?_
    refine w_aload_n (q := 23) rfl rfl rfl ?_
    refine w_gfi (q := 26) (k' := 9) (v := I 8 9) rfl rfl rfl rfl rfl rfl rfl ?_
    obtain ⟨h3, k⟩ := k
    refine w_iald (q := 27) (n := 402) (v := I 15 (I 8 9)) rfl rfl rfl rfl rfl rfl h3 ?_
    refine w_istore (q := 29) (L' := [some (.ref 8), some (w_i l1), some (w_i l2), some (w_i l3), some (w_i (I 15 (I 8 9)))]) (M' := []) rfl rfl rfl rfl rfl ?_
    refine w_iload_n (q := 30) rfl rfl rfl ?_
    obtain ⟨h4, k⟩ := k
    refine w_zeq (t := 64) (q := 33) rfl rfl rfl h4 (fun c5 => ?_) (fun c5 => ?_)
    · replace k := k.1 c5
      refine w_iload_n (q := 65) rfl rfl rfl ?_
      refine w_zeq (t := 88) (q := 68) rfl rfl rfl h4 (fun c6 => ?_) (fun c6 => ?_)
      · replace k := k.1 c6
        refine w_iload (q := 90) rfl rfl rfl ?_
        refine w_bipush (q := 92) rfl rfl rfl ?_
        obtain ⟨h7, k⟩ := k
        refine w_clt (t := 122) (q := 95) rfl rfl rfl h7 (by decide) (fun c8 => ?_) (fun c8 => ?_)
        · replace k := k.1 c8
          refine w_iload_n (q := 123) rfl rfl rfl ?_
          obtain ⟨h9, k⟩ := k
          refine w_zne (t := 133) (q := 126) rfl rfl rfl h9 (fun c10 => ?_) (fun c10 => ?_)
          · replace k := k.1 c10
            refine w_iload (q := 135) rfl rfl rfl ?_
            refine w_bipush (q := 137) rfl rfl rfl ?_
            refine w_cne (t := 161) (q := 140) rfl rfl rfl h7 (by decide) (fun c11 => ?_) (fun c11 => ?_)
            · replace k := k.1 c11
              refine w_aload_n (q := 162) rfl rfl rfl ?_
              refine w_iconst (q := 163) rfl rfl ?_
              refine w_callv (q := 166) rfl rfl rfl rfl rfl rfl ?_
              exact k
            · replace k := k.2 c11
              refine w_aload_n (q := 141) rfl rfl rfl ?_
              refine w_iconst (q := 142) rfl rfl ?_
              refine w_callv (q := 145) rfl rfl rfl rfl rfl rfl ?_
              exact k
          · replace k := k.2 c10
            refine w_aload_n (q := 127) rfl rfl rfl ?_
            refine w_iconst (q := 128) rfl rfl ?_
            refine w_callv (q := 131) rfl rfl rfl rfl rfl rfl ?_
            exact k
        · replace k := k.2 c8
          refine w_iload (q := 97) rfl rfl rfl ?_
          refine w_bipush (q := 99) rfl rfl rfl ?_
          refine w_cgt (t := 122) (q := 102) rfl rfl rfl h7 (by decide) (fun c12 => ?_) (fun c12 => ?_)
          · replace k := k.1 c12
            refine w_iload_n (q := 123) rfl rfl rfl ?_
            obtain ⟨h13, k⟩ := k
            refine w_zne (t := 133) (q := 126) rfl rfl rfl h13 (fun c14 => ?_) (fun c14 => ?_)
            · replace k := k.1 c14
              refine w_iload (q := 135) rfl rfl rfl ?_
              refine w_bipush (q := 137) rfl rfl rfl ?_
              refine w_cne (t := 161) (q := 140) rfl rfl rfl h7 (by decide) (fun c15 => ?_) (fun c15 => ?_)
              · replace k := k.1 c15
                refine w_aload_n (q := 162) rfl rfl rfl ?_
                refine w_iconst (q := 163) rfl rfl ?_
                refine w_callv (q := 166) rfl rfl rfl rfl rfl rfl ?_
                exact k
              · replace k := k.2 c15
                refine w_aload_n (q := 141) rfl rfl rfl ?_
                refine w_iconst (q := 142) rfl rfl ?_
                refine w_callv (q := 145) rfl rfl rfl rfl rfl rfl ?_
                exact k
            · replace k := k.2 c14
              refine w_aload_n (q := 127) rfl rfl rfl ?_
              refine w_iconst (q := 128) rfl rfl ?_
              refine w_callv (q := 131) rfl rfl rfl rfl rfl rfl ?_
              exact k
          · replace k := k.2 c12
            refine w_aload_n (q := 103) rfl rfl rfl ?_
            refine w_iload (q := 105) rfl rfl rfl ?_
            refine w_call (q := 108) rfl rfl rfl rfl rfl ?_
            exact k
      · replace k := k.2 c6
        refine w_aload_n (q := 69) rfl rfl rfl ?_
        refine w_iload (q := 71) rfl rfl rfl ?_
        refine w_callv (q := 74) rfl rfl rfl rfl rfl rfl ?_
        exact k
    · replace k := k.2 c5
      refine w_iload (q := 35) rfl rfl rfl ?_
      refine w_bipush (q := 37) rfl rfl rfl ?_
      obtain ⟨h16, k⟩ := k
      refine w_cne (t := 64) (q := 40) rfl rfl rfl h16 (by decide) (fun c17 => ?_) (fun c17 => ?_)
      · replace k := k.1 c17
        refine w_iload_n (q := 65) rfl rfl rfl ?_
        refine w_zeq (t := 88) (q := 68) rfl rfl rfl h4 (fun c18 => ?_) (fun c18 => ?_)
        · replace k := k.1 c18
          refine w_iload (q := 90) rfl rfl rfl ?_
          refine w_bipush (q := 92) rfl rfl rfl ?_
          refine w_clt (t := 122) (q := 95) rfl rfl rfl h16 (by decide) (fun c19 => ?_) (fun c19 => ?_)
          · replace k := k.1 c19
            refine w_iload_n (q := 123) rfl rfl rfl ?_
            obtain ⟨h20, k⟩ := k
            refine w_zne (t := 133) (q := 126) rfl rfl rfl h20 (fun c21 => ?_) (fun c21 => ?_)
            · replace k := k.1 c21
              refine w_iload (q := 135) rfl rfl rfl ?_
              refine w_bipush (q := 137) rfl rfl rfl ?_
              refine w_cne (t := 161) (q := 140) rfl rfl rfl h16 (by decide) (fun c22 => ?_) (fun c22 => ?_)
              · replace k := k.1 c22
                refine w_aload_n (q := 162) rfl rfl rfl ?_
                refine w_iconst (q := 163) rfl rfl ?_
                refine w_callv (q := 166) rfl rfl rfl rfl rfl rfl ?_
                exact k
              · replace k := k.2 c22
                refine w_aload_n (q := 141) rfl rfl rfl ?_
                refine w_iconst (q := 142) rfl rfl ?_
                refine w_callv (q := 145) rfl rfl rfl rfl rfl rfl ?_
                exact k
            · replace k := k.2 c21
              refine w_aload_n (q := 127) rfl rfl rfl ?_
              refine w_iconst (q := 128) rfl rfl ?_
              refine w_callv (q := 131) rfl rfl rfl rfl rfl rfl ?_
              exact k
          · replace k := k.2 c19
            refine w_iload (q := 97) rfl rfl rfl ?_
            refine w_bipush (q := 99) rfl rfl rfl ?_
            refine w_cgt (t := 122) (q := 102) rfl rfl rfl h16 (by decide) (fun c23 => ?_) (fun c23 => ?_)
            · replace k := k.1 c23
              refine w_iload_n (q := 123) rfl rfl rfl ?_
              obtain ⟨h24, k⟩ := k
              refine w_zne (t := 133) (q := 126) rfl rfl rfl h24 (fun c25 => ?_) (fun c25 => ?_)
              · replace k := k.1 c25
                refine w_iload (q := 135) rfl rfl rfl ?_
                refine w_bipush (q := 137) rfl rfl rfl ?_
                refine w_cne (t := 161) (q := 140) rfl rfl rfl h16 (by decide) (fun c26 => ?_) (fun c26 => ?_)
                · replace k := k.1 c26
                  refine w_aload_n (q := 162) rfl rfl rfl ?_
                  refine w_iconst (q := 163) rfl rfl ?_
                  refine w_callv (q := 166) rfl rfl rfl rfl rfl rfl ?_
                  exact k
                · replace k := k.2 c26
                  refine w_aload_n (q := 141) rfl rfl rfl ?_
                  refine w_iconst (q := 142) rfl rfl ?_
                  refine w_callv (q := 145) rfl rfl rfl rfl rfl rfl ?_
                  exact k
              · replace k := k.2 c25
                refine w_aload_n (q := 127) rfl rfl rfl ?_
                refine w_iconst (q := 128) rfl rfl ?_
                refine w_callv (q := 131) rfl rfl rfl rfl rfl rfl ?_
                exact k
            · replace k := k.2 c23
              refine w_aload_n (q := 103) rfl rfl rfl ?_
              refine w_iload (q := 105) rfl rfl rfl ?_
              refine w_call (q := 108) rfl rfl rfl rfl rfl ?_
              exact k
        · replace k := k.2 c18
          refine w_aload_n (q := 69) rfl rfl rfl ?_
          refine w_iload (q := 71) rfl rfl rfl ?_
          refine w_callv (q := 74) rfl rfl rfl rfl rfl rfl ?_
          exact k
      · replace k := k.2 c17
        refine w_iload_n (q := 41) rfl rfl rfl ?_
        refine w_bipush (q := 43) rfl rfl rfl ?_
        obtain ⟨h27, k⟩ := k
        refine w_clt (t := 52) (q := 46) rfl rfl rfl h27 (by decide) (fun c28 => ?_) (fun c28 => ?_)
        · replace k := k.1 c28
          refine w_iinc (q := 55) (L' := [some (.ref 8), some (w_i (l1 + 1)), some (w_i l2), some (w_i l3), some (w_i (I 15 (I 8 9)))]) (M' := []) rfl rfl rfl rfl rfl rfl ?_
          refine w_aload_n (q := 56) rfl rfl rfl ?_
          refine w_bipush (q := 58) rfl rfl rfl ?_
          refine w_callv (q := 61) rfl rfl rfl rfl rfl rfl ?_
          exact k
        · replace k := k.2 c28
          refine w_aload_n (q := 47) rfl rfl rfl ?_
          refine w_iconst (q := 48) rfl rfl ?_
          refine w_callv (q := 51) rfl rfl rfl rfl rfl rfl ?_
          exact k
theorem b90_187 {xs : Nat → Int32} {xl : Nat} {I J : w_I} {b : Bool} {Q : Option Value → w_I → w_I → Bool → Prop} {u1 u2 u3 u4 : Option Value} {s0 : Int} (k : ((s0 = 0 ∨ s0 = 1) ∧ Q (some (w_i s0)) I J b)) : w_T xs xl 90 187 [some (.ref 8), u1, u2, u3, u4] [] [w_i s0] I J b Q := by
  obtain ⟨h1, k⟩ := k
  refine w_iret rfl (w_nz1 h1) k
theorem b90_166 {xs : Nat → Int32} {xl : Nat} {I J : w_I} {b : Bool} {Q : Option Value → w_I → w_I → Bool → Prop} {u1 u2 u3 u4 : Option Value} {s0 : Int} (k : ((s0 = 0 ∨ s0 = 1) ∧ Q (some (w_i s0)) I J b)) : w_T xs xl 90 166 [some (.ref 8), u1, u2, u3, u4] [] [w_i s0] I J b Q := by
  obtain ⟨h1, k⟩ := k
  refine w_iret rfl (w_nz1 h1) k
theorem b90_145 {xs : Nat → Int32} {xl : Nat} {I J : w_I} {b : Bool} {Q : Option Value → w_I → w_I → Bool → Prop} {l1 l2 l3 : Int} {u4 : Option Value} (k : w_C xs xl 77 [.ref 8] (w_U I 8 7 (I 8 7 - 1)) J b (fun v Ic Jc bc => w_T xs xl 90 171 [some (.ref 8), some (w_i (l1 + (-1))), some (w_i l2), some (w_i l3), u4] [] (w_pv v []) Ic Jc bc Q)) : w_T xs xl 90 145 [some (.ref 8), some (w_i l1), some (w_i l2), some (w_i l3), u4] [] [] I J b Q := by
  refine w_aload_n (q := 146) rfl rfl rfl ?_
  refine w_dup (q := 147) rfl rfl rfl ?_
  refine w_gfi (q := 150) (k' := 7) (v := I 8 7) rfl rfl rfl rfl rfl rfl rfl ?_
  refine w_iconst (q := 151) rfl rfl ?_
  refine w_isub (q := 152) rfl rfl ?_
  refine w_pfi (q := 155) (k' := 7) rfl rfl rfl rfl ?_
  refine w_iinc (q := 158) (L' := [some (.ref 8), some (w_i (l1 + (-1))), some (w_i l2), some (w_i l3), u4]) (M' := []) rfl rfl rfl rfl rfl rfl ?_
  refine w_goto (t := 167) rfl rfl ?_
  refine w_aload_n (q := 168) rfl rfl rfl ?_
  refine w_callv (q := 171) rfl rfl rfl rfl rfl rfl ?_
  exact k
theorem b90_131 {xs : Nat → Int32} {xl : Nat} {I J : w_I} {b : Bool} {Q : Option Value → w_I → w_I → Bool → Prop} {u1 u2 u3 u4 : Option Value} (k : Q (some (w_i 1)) I J b) : w_T xs xl 90 131 [some (.ref 8), u1, u2, u3, u4] [] [] I J b Q := by
  refine w_iconst (q := 132) rfl rfl ?_
  refine w_iret rfl rfl k
theorem b90_108 {xs : Nat → Int32} {xl : Nat} {I J : w_I} {b : Bool} {Q : Option Value → w_I → w_I → Bool → Prop} {l1 l3 l4 s1 : Int} {u2 : Option Value} (k : w_C xs xl 93 [.ref 8, w_i s1] I J b (fun v Ic Jc bc => w_T xs xl 90 111 [some (.ref 8), some (w_i l1), u2, some (w_i l3), some (w_i l4)] [] (w_pv v []) Ic Jc bc Q)) : w_T xs xl 90 108 [some (.ref 8), some (w_i l1), u2, some (w_i l3), some (w_i l4)] [] [w_i s1, .ref 8] I J b Q := by
  refine w_callv (q := 111) rfl rfl rfl rfl rfl rfl ?_
  exact k
theorem b90_74 {xs : Nat → Int32} {xl : Nat} {I J : w_I} {b : Bool} {Q : Option Value → w_I → w_I → Bool → Prop} {l1 l3 s0 : Int} {u2 u4 : Option Value} (k : ((-2147483648 ≤ s0 ∧ s0 < 2147483648) ∧ ((¬ s0 = 0 → w_C xs xl 77 [.ref 8] I J b (fun v Ic Jc bc => w_T xs xl 90 171 [some (.ref 8), some (w_i l1), some (w_i 0), some (w_i l3), u4] [] (w_pv v []) Ic Jc bc Q)) ∧ (s0 = 0 → w_C xs xl 76 [.ref 8, w_i 1] I J b (fun v Ic Jc bc => w_T xs xl 90 82 [some (.ref 8), some (w_i l1), u2, some (w_i l3), u4] [] (w_pv v []) Ic Jc bc Q))))) : w_T xs xl 90 74 [some (.ref 8), some (w_i l1), u2, some (w_i l3), u4] [] [w_i s0] I J b Q := by
  obtain ⟨h1, k⟩ := k
  refine w_zne (t := 83) (q := 77) rfl rfl rfl h1 (fun c2 => ?_) (fun c2 => ?_)
  · replace k := k.1 c2
    refine w_iconst (q := 84) rfl rfl ?_
    refine w_istore_n (q := 85) (L' := [some (.ref 8), some (w_i l1), some (w_i 0), some (w_i l3), u4]) (M' := []) rfl rfl rfl rfl rfl ?_
    refine w_goto (t := 167) rfl rfl ?_
    refine w_aload_n (q := 168) rfl rfl rfl ?_
    refine w_callv (q := 171) rfl rfl rfl rfl rfl rfl ?_
    exact k
  · replace k := k.2 c2
    refine w_aload_n (q := 78) rfl rfl rfl ?_
    refine w_iconst (q := 79) rfl rfl ?_
    refine w_callv (q := 82) rfl rfl rfl rfl rfl rfl ?_
    exact k
theorem b90_61 {xs : Nat → Int32} {xl : Nat} {I J : w_I} {b : Bool} {Q : Option Value → w_I → w_I → Bool → Prop} {l1 l2 l3 : Int} {u4 : Option Value} (k : w_C xs xl 77 [.ref 8] I J b (fun v Ic Jc bc => w_T xs xl 90 171 [some (.ref 8), some (w_i l1), some (w_i l2), some (w_i l3), u4] [] (w_pv v []) Ic Jc bc Q)) : w_T xs xl 90 61 [some (.ref 8), some (w_i l1), some (w_i l2), some (w_i l3), u4] [] [] I J b Q := by
  refine w_goto (t := 167) rfl rfl ?_
  refine w_aload_n (q := 168) rfl rfl rfl ?_
  refine w_callv (q := 171) rfl rfl rfl rfl rfl rfl ?_
  exact k
theorem b90_51 {xs : Nat → Int32} {xl : Nat} {I J : w_I} {b : Bool} {Q : Option Value → w_I → w_I → Bool → Prop} {u1 u2 u3 u4 : Option Value} {s0 : Int} (k : ((s0 = 0 ∨ s0 = 1) ∧ Q (some (w_i s0)) I J b)) : w_T xs xl 90 51 [some (.ref 8), u1, u2, u3, u4] [] [w_i s0] I J b Q := by
  obtain ⟨h1, k⟩ := k
  refine w_iret rfl (w_nz1 h1) k
theorem b90_171 {xs : Nat → Int32} {xl : Nat} {I J : w_I} {b : Bool} {Q : Option Value → w_I → w_I → Bool → Prop} {l1 l2 l3 s0 : Int} {u4 : Option Value} (k : ((-2147483648 ≤ s0 ∧ s0 < 2147483648) ∧ ((¬ s0 = 0 → w_T xs xl 90 11 [some (.ref 8), some (w_i l1), some (w_i l2), some (w_i (l3 + 1)), u4] [] [] I J b Q) ∧ (s0 = 0 → Q (some (w_i 0)) I J b)))) : w_T xs xl 90 171 [some (.ref 8), some (w_i l1), some (w_i l2), some (w_i l3), u4] [] [w_i s0] I J b Q := by
  obtain ⟨h1, k⟩ := k
  refine w_zne (t := 176) (q := 174) rfl rfl rfl h1 (fun c2 => ?_) (fun c2 => ?_)
  · replace k := k.1 c2
    refine w_iinc (q := 179) (L' := [some (.ref 8), some (w_i l1), some (w_i l2), some (w_i (l3 + 1)), u4]) (M' := []) rfl rfl rfl rfl rfl rfl ?_
    refine w_goto (t := 11) rfl rfl ?_
    exact k
  · replace k := k.2 c2
    refine w_iconst (q := 175) rfl rfl ?_
    refine w_iret rfl rfl k
theorem b90_111 {xs : Nat → Int32} {xl : Nat} {I J : w_I} {b : Bool} {Q : Option Value → w_I → w_I → Bool → Prop} {l1 l3 l4 : Int} {u2 : Option Value} (k : w_C xs xl 92 [.ref 8, w_i l4] I J b (fun v Ic Jc bc => w_T xs xl 90 117 [some (.ref 8), some (w_i l1), u2, some (w_i l3), some (w_i l4)] [] (w_pv v []) Ic Jc bc Q)) : w_T xs xl 90 111 [some (.ref 8), some (w_i l1), u2, some (w_i l3), some (w_i l4)] [] [] I J b Q := by
  refine w_aload_n (q := 112) rfl rfl rfl ?_
  refine w_iload (q := 114) rfl rfl rfl ?_
  refine w_callv (q := 117) rfl rfl rfl rfl rfl rfl ?_
  exact k
theorem b90_82 {xs : Nat → Int32} {xl : Nat} {I J : w_I} {b : Bool} {Q : Option Value → w_I → w_I → Bool → Prop} {u1 u2 u3 u4 : Option Value} {s0 : Int} (k : ((s0 = 0 ∨ s0 = 1) ∧ Q (some (w_i s0)) I J b)) : w_T xs xl 90 82 [some (.ref 8), u1, u2, u3, u4] [] [w_i s0] I J b Q := by
  obtain ⟨h1, k⟩ := k
  refine w_iret rfl (w_nz1 h1) k
theorem b90_117 {xs : Nat → Int32} {xl : Nat} {I J : w_I} {b : Bool} {Q : Option Value → w_I → w_I → Bool → Prop} {l1 l3 : Int} {u2 u4 : Option Value} (k : w_C xs xl 77 [.ref 8] I J b (fun v Ic Jc bc => w_T xs xl 90 171 [some (.ref 8), some (w_i l1), some (w_i 1), some (w_i l3), u4] [] (w_pv v []) Ic Jc bc Q)) : w_T xs xl 90 117 [some (.ref 8), some (w_i l1), u2, some (w_i l3), u4] [] [] I J b Q := by
  refine w_iconst (q := 118) rfl rfl ?_
  refine w_istore_n (q := 119) (L' := [some (.ref 8), some (w_i l1), some (w_i 1), some (w_i l3), u4]) (M' := []) rfl rfl rfl rfl rfl ?_
  refine w_goto (t := 167) rfl rfl ?_
  refine w_aload_n (q := 168) rfl rfl rfl ?_
  refine w_callv (q := 171) rfl rfl rfl rfl rfl rfl ?_
  exact k
theorem e91 {xs : Nat → Int32} {xl : Nat} {I J : w_I} {b : Bool} {Q : Option Value → w_I → w_I → Bool → Prop} {a1 : Int} (t : w_T xs xl 91 0 [some (.ref 8), some (w_i a1)] [] [] I J b Q) : w_C xs xl 91 [.ref 8, w_i a1] I J b Q := w_en rfl t
theorem b91_0 {xs : Nat → Int32} {xl : Nat} {I J : w_I} {b : Bool} {Q : Option Value → w_I → w_I → Bool → Prop} {a1 : Int} (k : ((-2147483648 ≤ a1 ∧ a1 < 2147483648) ∧ ((¬ a1 = 3 → ((a1 < 37 → Q (some (w_i 0)) I J b) ∧ (¬ a1 < 37 → ((46 < a1 → Q (some (w_i 0)) I J b) ∧ (¬ 46 < a1 → w_C xs xl 102 [.ref 9, w_i (10000 + a1 - 37)] I J b (fun v Ic Jc bc => w_T xs xl 91 50 [some (.ref 8), some (w_i a1)] [] (w_pv v []) Ic Jc bc Q)))))) ∧ (a1 = 3 → ((0 ≤ I 8 9 ∧ I 8 9 < 402) ∧ w_C xs xl 102 [.ref 9, w_i (I 16 (I 8 9))] I J b (fun v Ic Jc bc => w_T xs xl 91 21 [some (.ref 8), some (w_i a1)] [] (w_pv v []) Ic Jc bc Q)))))) : w_T xs xl 91 0 [some (.ref 8), some (w_i a1)] [] [] I J b Q := by
  refine w_iload_n (q := 1) rfl rfl rfl ?_
  refine w_iconst (q := 2) rfl rfl ?_
  obtain ⟨h1, k⟩ := k
  refine w_cne (t := 23) (q := 5) rfl rfl rfl h1 (by decide) (fun c2 => ?_) (fun c2 => ?_)
  · replace k := k.1 c2
    refine w_iload_n (q := 24) rfl rfl rfl ?_
    refine w_bipush (q := 26) rfl rfl rfl ?_
    refine w_clt (t := 52) (q := 29) rfl rfl rfl h1 (by decide) (fun c3 => ?_) (fun c3 => ?_)
    · replace k := k.1 c3
      refine w_iconst (q := 53) rfl rfl ?_
      refine w_iret rfl rfl k
    · replace k := k.2 c3
      refine w_iload_n (q := 30) rfl rfl rfl ?_
      refine w_bipush (q := 32) rfl rfl rfl ?_
      refine w_cgt (t := 52) (q := 35) rfl rfl rfl h1 (by decide) (fun c4 => ?_) (fun c4 => ?_)
      · replace k := k.1 c4
        refine w_iconst (q := 53) rfl rfl ?_
        refine w_iret rfl rfl k
      · replace k := k.2 c4
        refine w_aload_n (q := 36) rfl rfl rfl ?_
        refine w_gfr (q := 39) rfl rfl rfl rfl (j := 9) rfl ?_
        refine w_sipush (q := 42) rfl rfl rfl ?_
        refine w_iload_n (q := 43) rfl rfl rfl ?_
        refine w_iadd (q := 44) rfl rfl ?_
        refine w_bipush (q := 46) rfl rfl rfl ?_
        refine w_isub (q := 47) rfl rfl ?_
        refine w_callv (q := 50) rfl rfl rfl rfl rfl rfl ?_
        exact k
  · replace k := k.2 c2
    refine w_aload_n (q := 6) rfl rfl rfl ?_
    refine w_gfr (q := 9) rfl rfl rfl rfl (j := 9) rfl ?_
    refine w_aload_n (q := 10) rfl rfl rfl ?_
    refine w_gfr (q := 13) rfl rfl rfl rfl (j := 16) rfl ?_
    refine w_aload_n (q := 14) rfl rfl rfl ?_
    refine w_gfi (q := 17) (k' := 9) (v := I 8 9) rfl rfl rfl rfl rfl rfl rfl ?_
    obtain ⟨h5, k⟩ := k
    refine w_iald (q := 18) (n := 402) (v := I 16 (I 8 9)) rfl rfl rfl rfl rfl rfl h5 ?_
    refine w_callv (q := 21) rfl rfl rfl rfl rfl rfl ?_
    exact k
theorem b91_50 {xs : Nat → Int32} {xl : Nat} {I J : w_I} {b : Bool} {Q : Option Value → w_I → w_I → Bool → Prop} {u1 : Option Value} (k : Q (some (w_i 1)) I J b) : w_T xs xl 91 50 [some (.ref 8), u1] [] [] I J b Q := by
  refine w_iconst (q := 51) rfl rfl ?_
  refine w_iret rfl rfl k
theorem b91_21 {xs : Nat → Int32} {xl : Nat} {I J : w_I} {b : Bool} {Q : Option Value → w_I → w_I → Bool → Prop} {u1 : Option Value} (k : Q (some (w_i 1)) I J b) : w_T xs xl 91 21 [some (.ref 8), u1] [] [] I J b Q := by
  refine w_iconst (q := 22) rfl rfl ?_
  refine w_iret rfl rfl k
theorem e92 {xs : Nat → Int32} {xl : Nat} {I J : w_I} {b : Bool} {Q : Option Value → w_I → w_I → Bool → Prop} {a1 : Int} (t : w_T xs xl 92 0 [some (.ref 8), some (w_i a1)] [] [] I J b Q) : w_C xs xl 92 [.ref 8, w_i a1] I J b Q := w_en rfl t
theorem b92_0 {xs : Nat → Int32} {xl : Nat} {I J : w_I} {b : Bool} {Q : Option Value → w_I → w_I → Bool → Prop} {a1 : Int} (k : ((-2147483648 ≤ I 8 7 ∧ I 8 7 < 2147483648) ∧ ((32 ≤ I 8 7 → Q none I J b) ∧ (¬ 32 ≤ I 8 7 → ((0 ≤ I 8 7 ∧ I 8 7 < 32) ∧ Q none (w_U (w_U I 19 (I 8 7) a1) 8 7 (I 8 7 + 1)) J b))))) : w_T xs xl 92 0 [some (.ref 8), some (w_i a1)] [] [] I J b Q := by
  refine w_aload_n (q := 1) rfl rfl rfl ?_
  refine w_gfi (q := 4) (k' := 7) (v := I 8 7) rfl rfl rfl rfl rfl rfl rfl ?_
  refine w_bipush (q := 6) rfl rfl rfl ?_
  obtain ⟨h1, k⟩ := k
  refine w_cge (t := 29) (q := 9) rfl rfl rfl h1 (by decide) (fun c2 => ?_) (fun c2 => ?_)
  · replace k := k.1 c2
    exact w_vret rfl k
  · replace k := k.2 c2
    refine w_aload_n (q := 10) rfl rfl rfl ?_
    refine w_gfr (q := 13) rfl rfl rfl rfl (j := 19) rfl ?_
    refine w_aload_n (q := 14) rfl rfl rfl ?_
    refine w_gfi (q := 17) (k' := 7) (v := I 8 7) rfl rfl rfl rfl rfl rfl rfl ?_
    refine w_iload_n (q := 18) rfl rfl rfl ?_
    obtain ⟨h3, k⟩ := k
    refine w_iast (q := 19) (n := 32) rfl rfl rfl rfl rfl h3 ?_
    refine w_aload_n (q := 20) rfl rfl rfl ?_
    refine w_dup (q := 21) rfl rfl rfl ?_
    refine w_gfi (q := 24) (k' := 7) (v := I 8 7) rfl rfl rfl rfl rfl rfl rfl ?_
    refine w_iconst (q := 25) rfl rfl ?_
    refine w_iadd (q := 26) rfl rfl ?_
    refine w_pfi (q := 29) (k' := 7) rfl rfl rfl rfl ?_
    exact w_vret rfl k
theorem e93 {xs : Nat → Int32} {xl : Nat} {I J : w_I} {b : Bool} {Q : Option Value → w_I → w_I → Bool → Prop} {a1 : Int} (t : w_T xs xl 93 0 [some (.ref 8), some (w_i a1)] [] [] I J b Q) : w_C xs xl 93 [.ref 8, w_i a1] I J b Q := w_en rfl t
theorem b93_0 {xs : Nat → Int32} {xl : Nat} {I J : w_I} {b : Bool} {Q : Option Value → w_I → w_I → Bool → Prop} {a1 : Int} (k : ((-2147483648 ≤ I 8 7 ∧ I 8 7 < 2147483648) ∧ ((I 8 7 ≤ 0 → Q none I J b) ∧ (¬ I 8 7 ≤ 0 → ((0 ≤ I 8 7 - 1 ∧ I 8 7 - 1 < 32) ∧ w_C xs xl 94 [w_i (I 19 (I 8 7 - 1))] I J b (fun v Ic Jc bc => w_T xs xl 93 21 [some (.ref 8), some (w_i a1)] [] (w_pv v []) Ic Jc bc Q)))))) : w_T xs xl 93 0 [some (.ref 8), some (w_i a1)] [] [] I J b Q := by
  refine w_aload_n (q := 1) rfl rfl rfl ?_
  refine w_gfi (q := 4) (k' := 7) (v := I 8 7) rfl rfl rfl rfl rfl rfl rfl ?_
  obtain ⟨h1, k⟩ := k
  refine w_zle (t := 58) (q := 7) rfl rfl rfl h1 (fun c2 => ?_) (fun c2 => ?_)
  · replace k := k.1 c2
    exact w_vret rfl k
  · replace k := k.2 c2
    refine w_aload_n (q := 8) rfl rfl rfl ?_
    refine w_gfr (q := 11) rfl rfl rfl rfl (j := 19) rfl ?_
    refine w_aload_n (q := 12) rfl rfl rfl ?_
    refine w_gfi (q := 15) (k' := 7) (v := I 8 7) rfl rfl rfl rfl rfl rfl rfl ?_
    refine w_iconst (q := 16) rfl rfl ?_
    refine w_isub (q := 17) rfl rfl ?_
    obtain ⟨h3, k⟩ := k
    refine w_iald (q := 18) (n := 32) (v := I 19 (I 8 7 - 1)) rfl rfl rfl rfl rfl rfl h3 ?_
    refine w_call (q := 21) rfl rfl rfl rfl rfl ?_
    exact k
theorem b93_21 {xs : Nat → Int32} {xl : Nat} {I J : w_I} {b : Bool} {Q : Option Value → w_I → w_I → Bool → Prop} {l1 s0 : Int} (k : ((-2147483648 ≤ s0 ∧ s0 < 2147483648) ∧ (-2147483648 ≤ l1 ∧ l1 < 2147483648) ∧ ((s0 < l1 → Q none I J b) ∧ (¬ s0 < l1 → ((0 ≤ I 8 7 - 1 ∧ I 8 7 - 1 < 32) ∧ w_C xs xl 102 [.ref 9, w_i (20000 + I 19 (I 8 7 - 1))] (w_U I 8 7 (I 8 7 - 1)) J b (fun v Ic Jc bc => w_T xs xl 93 55 [some (.ref 8), some (w_i l1)] [] (w_pv v []) Ic Jc bc Q)))))) : w_T xs xl 93 21 [some (.ref 8), some (w_i l1)] [] [w_i s0] I J b Q := by
  refine w_iload_n (q := 22) rfl rfl rfl ?_
  obtain ⟨h1, h2, k⟩ := k
  refine w_clt (t := 58) (q := 25) rfl rfl rfl h1 h2 (fun c3 => ?_) (fun c3 => ?_)
  · replace k := k.1 c3
    exact w_vret rfl k
  · replace k := k.2 c3
    refine w_aload_n (q := 26) rfl rfl rfl ?_
    refine w_dup (q := 27) rfl rfl rfl ?_
    refine w_gfi (q := 30) (k' := 7) (v := I 8 7) rfl rfl rfl rfl rfl rfl rfl ?_
    refine w_iconst (q := 31) rfl rfl ?_
    refine w_isub (q := 32) rfl rfl ?_
    refine w_pfi (q := 35) (k' := 7) rfl rfl rfl rfl ?_
    refine w_aload_n (q := 36) rfl rfl rfl ?_
    refine w_gfr (q := 39) rfl rfl rfl rfl (j := 9) rfl ?_
    refine w_sipush (q := 42) rfl rfl rfl ?_
    refine w_aload_n (q := 43) rfl rfl rfl ?_
    refine w_gfr (q := 46) rfl rfl rfl rfl (j := 19) rfl ?_
    refine w_aload_n (q := 47) rfl rfl rfl ?_
    refine w_gfi (q := 50) (k' := 7) (v := I 8 7 - 1) rfl rfl rfl rfl rfl rfl rfl ?_
    obtain ⟨h4, k⟩ := k
    refine w_iald (q := 51) (n := 32) (v := I 19 (I 8 7 - 1)) rfl rfl rfl rfl rfl rfl h4 ?_
    refine w_iadd (q := 52) rfl rfl ?_
    refine w_callv (q := 55) rfl rfl rfl rfl rfl rfl ?_
    exact k
theorem b93_55 {xs : Nat → Int32} {xl : Nat} {I J : w_I} {b : Bool} {Q : Option Value → w_I → w_I → Bool → Prop} {l1 : Int} (k : w_T xs xl 93 0 [some (.ref 8), some (w_i l1)] [] [] I J b Q) : w_T xs xl 93 55 [some (.ref 8), some (w_i l1)] [] [] I J b Q := by
  refine w_goto (t := 0) rfl rfl ?_
  exact k
theorem b93_0a {xs : Nat → Int32} {xl : Nat} {I J : w_I} {b : Bool} {Q : Option Value → w_I → w_I → Bool → Prop} {l1 : Int} (k : ((-2147483648 ≤ I 8 7 ∧ I 8 7 < 2147483648) ∧ ((I 8 7 ≤ 0 → Q none I J b) ∧ (¬ I 8 7 ≤ 0 → ((0 ≤ I 8 7 - 1 ∧ I 8 7 - 1 < 32) ∧ w_C xs xl 94 [w_i (I 19 (I 8 7 - 1))] I J b (fun v Ic Jc bc => w_T xs xl 93 21 [some (.ref 8), some (w_i l1)] [] (w_pv v []) Ic Jc bc Q)))))) : w_T xs xl 93 0 [some (.ref 8), some (w_i l1)] [] [] I J b Q := by
  refine w_aload_n (q := 1) rfl rfl rfl ?_
  refine w_gfi (q := 4) (k' := 7) (v := I 8 7) rfl rfl rfl rfl rfl rfl rfl ?_
  obtain ⟨h1, k⟩ := k
  refine w_zle (t := 58) (q := 7) rfl rfl rfl h1 (fun c2 => ?_) (fun c2 => ?_)
  · replace k := k.1 c2
    exact w_vret rfl k
  · replace k := k.2 c2
    refine w_aload_n (q := 8) rfl rfl rfl ?_
    refine w_gfr (q := 11) rfl rfl rfl rfl (j := 19) rfl ?_
    refine w_aload_n (q := 12) rfl rfl rfl ?_
    refine w_gfi (q := 15) (k' := 7) (v := I 8 7) rfl rfl rfl rfl rfl rfl rfl ?_
    refine w_iconst (q := 16) rfl rfl ?_
    refine w_isub (q := 17) rfl rfl ?_
    obtain ⟨h3, k⟩ := k
    refine w_iald (q := 18) (n := 32) (v := I 19 (I 8 7 - 1)) rfl rfl rfl rfl rfl rfl h3 ?_
    refine w_call (q := 21) rfl rfl rfl rfl rfl ?_
    exact k
theorem e94 {xs : Nat → Int32} {xl : Nat} {I J : w_I} {b : Bool} {Q : Option Value → w_I → w_I → Bool → Prop} {a0 : Int} (t : w_T xs xl 94 0 [some (w_i a0)] [] [] I J b Q) : w_C xs xl 94 [w_i a0] I J b Q := w_en rfl t
theorem b94_0 {xs : Nat → Int32} {xl : Nat} {I J : w_I} {b : Bool} {Q : Option Value → w_I → w_I → Bool → Prop} {a0 : Int} (k : ((-2147483648 ≤ a0 ∧ a0 < 2147483648) ∧ ((a0 = 8 → Q (some (w_i 2)) I J b) ∧ (¬ a0 = 8 → ((¬ a0 = 9 → ((¬ a0 = 14 → Q (some (w_i 1)) I J b) ∧ (a0 = 14 → Q (some (w_i 0)) I J b))) ∧ (a0 = 9 → Q (some (w_i 2)) I J b)))))) : w_T xs xl 94 0 [some (w_i a0)] [] [] I J b Q := by
  refine w_iload_n (q := 1) rfl rfl rfl ?_
  refine w_bipush (q := 3) rfl rfl rfl ?_
  obtain ⟨h1, k⟩ := k
  refine w_ceq (t := 12) (q := 6) rfl rfl rfl h1 (by decide) (fun c2 => ?_) (fun c2 => ?_)
  · replace k := k.1 c2
    refine w_iconst (q := 13) rfl rfl ?_
    refine w_goto (t := 27) rfl rfl ?_
    exact w_iret rfl rfl k
  · replace k := k.2 c2
    refine w_iload_n (q := 7) rfl rfl rfl ?_
    refine w_bipush (q := 9) rfl rfl rfl ?_
    refine w_cne (t := 16) (q := 12) rfl rfl rfl h1 (by decide) (fun c3 => ?_) (fun c3 => ?_)
    · replace k := k.1 c3
      refine w_iload_n (q := 17) rfl rfl rfl ?_
      refine w_bipush (q := 19) rfl rfl rfl ?_
      refine w_cne (t := 26) (q := 22) rfl rfl rfl h1 (by decide) (fun c4 => ?_) (fun c4 => ?_)
      · replace k := k.1 c4
        refine w_iconst (q := 27) rfl rfl ?_
        exact w_iret rfl rfl k
      · replace k := k.2 c4
        refine w_iconst (q := 23) rfl rfl ?_
        refine w_goto (t := 27) rfl rfl ?_
        exact w_iret rfl rfl k
    · replace k := k.2 c3
      refine w_iconst (q := 13) rfl rfl ?_
      refine w_goto (t := 27) rfl rfl ?_
      exact w_iret rfl rfl k
theorem e96 {xs : Nat → Int32} {xl : Nat} {I J : w_I} {b : Bool} {Q : Option Value → w_I → w_I → Bool → Prop} {a1 : Int} (t : w_T xs xl 96 0 [some (.ref 79), some (w_i a1), none, none, none, none, none, none] [] [] I J b Q) : w_C xs xl 96 [.ref 79, w_i a1] I J b Q := w_en rfl t
theorem b96_0 {xs : Nat → Int32} {xl : Nat} {I J : w_I} {b : Bool} {Q : Option Value → w_I → w_I → Bool → Prop} {a1 : Int} (k : ((0 ≤ a1 ∧ a1 < 10) ∧ w_T xs xl 96 24 [some (.ref 79), some (w_i a1), some (w_i 0), some (w_i (I 6 a1)), none, none, none, none] [] [] (w_U (w_U I 79 3 0) 81 0 0) J b Q)) : w_T xs xl 96 0 [some (.ref 79), some (w_i a1), none, none, none, none, none, none] [] [] I J b Q := by
  refine w_iconst (q := 1) rfl rfl ?_
  refine w_istore_n (q := 2) (L' := [some (.ref 79), some (w_i a1), some (w_i 0), none, none, none, none, none]) (M' := []) rfl rfl rfl rfl rfl ?_
  refine w_aload_n (q := 3) rfl rfl rfl ?_
  refine w_iconst (q := 4) rfl rfl ?_
  refine w_pfz (q := 7) (k' := 3) rfl rfl rfl rfl (by decide) ?_
  refine w_aload_n (q := 8) rfl rfl rfl ?_
  refine w_gfr (q := 11) rfl rfl rfl rfl (j := 81) rfl ?_
  refine w_iconst (q := 12) rfl rfl ?_
  refine w_iconst (q := 13) rfl rfl ?_
  refine w_iast (q := 14) (n := 32) rfl rfl rfl rfl rfl (by decide) ?_
  refine w_aload_n (q := 15) rfl rfl rfl ?_
  refine w_gfr (q := 18) rfl rfl rfl rfl (j := 2) rfl ?_
  refine w_gfr (q := 21) rfl rfl rfl rfl (j := 6) rfl ?_
  refine w_iload_n (q := 22) rfl rfl rfl ?_
  obtain ⟨h1, k⟩ := k
  refine w_iald (q := 23) (n := 10) (v := I 6 a1) rfl rfl rfl rfl rfl rfl h1 ?_
  refine w_istore_n (q := 24) (L' := [some (.ref 79), some (w_i a1), some (w_i 0), some (w_i (I 6 a1)), none, none, none, none]) (M' := []) rfl rfl rfl rfl rfl ?_
  exact k
theorem b96_24 {xs : Nat → Int32} {xl : Nat} {I J : w_I} {b : Bool} {Q : Option Value → w_I → w_I → Bool → Prop} {l1 l2 l3 : Int} {u4 u5 u6 u7 : Option Value} (k : ((0 ≤ l1 ∧ l1 < 10) ∧ ((-2147483648 ≤ l3 ∧ l3 < 2147483648) ∧ (-2147483648 ≤ I 7 l1 ∧ I 7 l1 < 2147483648) ∧ ((I 7 l1 ≤ l3 → ((-2147483648 ≤ I 79 3 ∧ I 79 3 < 2147483648) ∧ ((I 79 3 = 0 → Q (some (w_i (I 81 0))) I J b) ∧ (¬ I 79 3 = 0 → Q (some (w_i 0)) I J b)))) ∧ (¬ I 7 l1 ≤ l3 → ((0 ≤ l3 ∧ l3 < 404) ∧ ((-2147483648 ≤ I 5 l3 ∧ I 5 l3 < 2147483648) ∧ ((20000 ≤ I 5 l3 → ((¬ I 5 l3 = 20036 → ((-2147483648 ≤ l2 ∧ l2 < 2147483648) ∧ ((l2 ≤ 1 → w_T xs xl 96 24 [some (.ref 79), some (w_i l1), some (w_i l2), some (w_i (l3 + 1)), some (w_i (I 5 l3)), u5, u6, u7] [] [] I J b Q) ∧ (¬ l2 ≤ 1 → ((0 ≤ l2 + (-1) - 1 ∧ l2 + (-1) - 1 < 32) ∧ ((0 ≤ l2 + (-1) ∧ l2 + (-1) < 32) ∧ ((-2147483648 ≤ I 5 l3 - 20000 ∧ I 5 l3 - 20000 < 2147483648) ∧ ((9 < I 5 l3 - 20000 → w_C xs xl 98 [.ref 79, w_i (I 5 l3 - 20000), w_i (I 81 (l2 + (-1) - 1)), w_i (I 81 (l2 + (-1)))] I J b (fun v Ic Jc bc => w_T xs xl 96 202 [some (.ref 79), some (w_i l1), some (w_i (l2 + (-1))), some (w_i l3), some (w_i (I 5 l3)), some (w_i (I 5 l3 - 20000)), some (w_i (I 81 (l2 + (-1) - 1))), some (w_i (I 81 (l2 + (-1))))] [] (w_pv v [w_i (l2 + (-1) - 1), .ref 81]) Ic Jc bc Q)) ∧ (¬ 9 < I 5 l3 - 20000 → w_C xs xl 97 [.ref 79, w_i (I 5 l3 - 20000), w_i (I 81 (l2 + (-1) - 1)), w_i (I 81 (l2 + (-1)))] I J b (fun v Ic Jc bc => w_T xs xl 96 189 [some (.ref 79), some (w_i l1), some (w_i (l2 + (-1))), some (w_i l3), some (w_i (I 5 l3)), some (w_i (I 5 l3 - 20000)), some (w_i (I 81 (l2 + (-1) - 1))), some (w_i (I 81 (l2 + (-1))))] [] (w_pv v [w_i (l2 + (-1) - 1), .ref 81]) Ic Jc bc Q)))))))))) ∧ (I 5 l3 = 20036 → ((-2147483648 ≤ l2 ∧ l2 < 2147483648) ∧ ((l2 ≤ 0 → w_T xs xl 96 24 [some (.ref 79), some (w_i l1), some (w_i l2), some (w_i (l3 + 1)), some (w_i (I 5 l3)), u5, u6, u7] [] [] I J b Q) ∧ (¬ l2 ≤ 0 → ((0 ≤ l2 - 1 ∧ l2 - 1 < 32) ∧ w_T xs xl 96 24 [some (.ref 79), some (w_i l1), some (w_i l2), some (w_i (l3 + 1)), some (w_i (I 5 l3)), u5, u6, u7] [] [] (w_U I 81 (l2 - 1) (1 - I 81 (l2 - 1))) J b Q))))))) ∧ (¬ 20000 ≤ I 5 l3 → ((-2147483648 ≤ l2 ∧ l2 < 2147483648) ∧ ((32 ≤ l2 → w_T xs xl 96 24 [some (.ref 79), some (w_i l1), some (w_i l2), some (w_i (l3 + 1)), some (w_i (I 5 l3)), u5, u6, u7] [] [] I J b Q) ∧ (¬ 32 ≤ l2 → ((10000 ≤ I 5 l3 → ((0 ≤ I 5 l3 - 10000 ∧ I 5 l3 - 10000 < 10) ∧ ((0 ≤ l2 ∧ l2 < 32) ∧ w_T xs xl 96 24 [some (.ref 79), some (w_i l1), some (w_i (l2 + 1)), some (w_i (l3 + 1)), some (w_i (I 5 l3)), u5, u6, u7] [] [] (w_U I 81 l2 (I 80 (I 5 l3 - 10000))) J b Q))) ∧ (¬ 10000 ≤ I 5 l3 → ((0 ≤ l2 ∧ l2 < 32) ∧ w_T xs xl 96 24 [some (.ref 79), some (w_i l1), some (w_i (l2 + 1)), some (w_i (l3 + 1)), some (w_i (I 5 l3)), u5, u6, u7] [] [] (w_U I 81 l2 (I 5 l3)) J b Q))))))))))))))) : w_T xs xl 96 24 [some (.ref 79), some (w_i l1), some (w_i l2), some (w_i l3), u4, u5, u6, u7] [] [] I J b Q := by
  refine w_iload_n (q := 25) rfl rfl rfl ?_
  refine w_aload_n (q := 26) rfl rfl rfl ?_
  refine w_gfr (q := 29) rfl rfl rfl rfl (j := 2) rfl ?_
  refine w_gfr (q := 32) rfl rfl rfl rfl (j := 7) rfl ?_
  refine w_iload_n (q := 33) rfl rfl rfl ?_
  obtain ⟨h1, k⟩ := k
  refine w_iald (q := 34) (n := 10) (v := I 7 l1) rfl rfl rfl rfl rfl rfl h1 ?_
  obtain ⟨h2, h3, k⟩ := k
  refine w_cge (t := 217) (q := 37) rfl rfl rfl h2 h3 (fun c4 => ?_) (fun c4 => ?_)
  · replace k := k.1 c4
    refine w_aload_n (q := 218) rfl rfl rfl ?_
    refine w_gfi (q := 221) (k' := 3) (v := I 79 3) rfl rfl rfl rfl rfl rfl rfl ?_
    obtain ⟨h5, k⟩ := k
    refine w_zeq (t := 228) (q := 224) rfl rfl rfl h5 (fun c6 => ?_) (fun c6 => ?_)
    · replace k := k.1 c6
      refine w_aload_n (q := 229) rfl rfl rfl ?_
      refine w_gfr (q := 232) rfl rfl rfl rfl (j := 81) rfl ?_
      refine w_iconst (q := 233) rfl rfl ?_
      refine w_iald (q := 234) (n := 32) (v := I 81 0) rfl rfl rfl rfl rfl rfl (by decide) ?_
      exact w_iret rfl rfl k
    · replace k := k.2 c6
      refine w_iconst (q := 225) rfl rfl ?_
      refine w_goto (t := 234) rfl rfl ?_
      exact w_iret rfl rfl k
  · replace k := k.2 c4
    refine w_aload_n (q := 38) rfl rfl rfl ?_
    refine w_gfr (q := 41) rfl rfl rfl rfl (j := 2) rfl ?_
    refine w_gfr (q := 44) rfl rfl rfl rfl (j := 5) rfl ?_
    refine w_iload_n (q := 45) rfl rfl rfl ?_
    obtain ⟨h7, k⟩ := k
    refine w_iald (q := 46) (n := 404) (v := I 5 l3) rfl rfl rfl rfl rfl rfl h7 ?_
    refine w_istore (q := 48) (L' := [some (.ref 79), some (w_i l1), some (w_i l2), some (w_i l3), some (w_i (I 5 l3)), u5, u6, u7]) (M' := []) rfl rfl rfl rfl rfl ?_
    refine w_iload (q := 50) rfl rfl rfl ?_
    refine w_sipush (q := 53) rfl rfl rfl ?_
    obtain ⟨h8, k⟩ := k
    refine w_cge (t := 98) (q := 56) rfl rfl rfl h8 (by decide) (fun c9 => ?_) (fun c9 => ?_)
    · replace k := k.1 c9
      refine w_iload (q := 100) rfl rfl rfl ?_
      refine w_sipush (q := 103) rfl rfl rfl ?_
      refine w_cne (t := 131) (q := 106) rfl rfl rfl h8 (by decide) (fun c10 => ?_) (fun c10 => ?_)
      · replace k := k.1 c10
        refine w_iload_n (q := 132) rfl rfl rfl ?_
        refine w_iconst (q := 133) rfl rfl ?_
        obtain ⟨h11, k⟩ := k
        refine w_cle (t := 211) (q := 136) rfl rfl rfl h11 (by decide) (fun c12 => ?_) (fun c12 => ?_)
        · replace k := k.1 c12
          refine w_iinc (q := 214) (L' := [some (.ref 79), some (w_i l1), some (w_i l2), some (w_i (l3 + 1)), some (w_i (I 5 l3)), u5, u6, u7]) (M' := []) rfl rfl rfl rfl rfl rfl ?_
          refine w_goto (t := 24) rfl rfl ?_
          exact k
        · replace k := k.2 c12
          refine w_iinc (q := 139) (L' := [some (.ref 79), some (w_i l1), some (w_i (l2 + (-1))), some (w_i l3), some (w_i (I 5 l3)), u5, u6, u7]) (M' := []) rfl rfl rfl rfl rfl rfl ?_
          refine w_iload (q := 141) rfl rfl rfl ?_
          refine w_sipush (q := 144) rfl rfl rfl ?_
          refine w_isub (q := 145) rfl rfl ?_
          refine w_istore (q := 147) (L' := [some (.ref 79), some (w_i l1), some (w_i (l2 + (-1))), some (w_i l3), some (w_i (I 5 l3)), some (w_i (I 5 l3 - 20000)), u6, u7]) (M' := []) rfl rfl rfl rfl rfl ?_
          refine w_aload_n (q := 148) rfl rfl rfl ?_
          refine w_gfr (q := 151) rfl rfl rfl rfl (j := 81) rfl ?_
          refine w_iload_n (q := 152) rfl rfl rfl ?_
          refine w_iconst (q := 153) rfl rfl ?_
          refine w_isub (q := 154) rfl rfl ?_
          obtain ⟨h13, k⟩ := k
          refine w_iald (q := 155) (n := 32) (v := I 81 (l2 + (-1) - 1)) rfl rfl rfl rfl rfl rfl h13 ?_
          refine w_istore (q := 157) (L' := [some (.ref 79), some (w_i l1), some (w_i (l2 + (-1))), some (w_i l3), some (w_i (I 5 l3)), some (w_i (I 5 l3 - 20000)), some (w_i (I 81 (l2 + (-1) - 1))), u7]) (M' := []) rfl rfl rfl rfl rfl ?_
          refine w_aload_n (q := 158) rfl rfl rfl ?_
          refine w_gfr (q := 161) rfl rfl rfl rfl (j := 81) rfl ?_
          refine w_iload_n (q := 162) rfl rfl rfl ?_
          obtain ⟨h14, k⟩ := k
          refine w_iald (q := 163) (n := 32) (v := I 81 (l2 + (-1))) rfl rfl rfl rfl rfl rfl h14 ?_
          refine w_istore (q := 165) (L' := [some (.ref 79), some (w_i l1), some (w_i (l2 + (-1))), some (w_i l3), some (w_i (I 5 l3)), some (w_i (I 5 l3 - 20000)), some (w_i (I 81 (l2 + (-1) - 1))), some (w_i (I 81 (l2 + (-1))))]) (M' := []) rfl rfl rfl rfl rfl ?_
          refine w_aload_n (q := 166) rfl rfl rfl ?_
          refine w_gfr (q := 169) rfl rfl rfl rfl (j := 81) rfl ?_
          refine w_iload_n (q := 170) rfl rfl rfl ?_
          refine w_iconst (q := 171) rfl rfl ?_
          refine w_isub (q := 172) rfl rfl ?_
          refine w_iload (q := 174) rfl rfl rfl ?_
          refine w_bipush (q := 176) rfl rfl rfl ?_
          obtain ⟨h15, k⟩ := k
          refine w_cgt (t := 192) (q := 179) rfl rfl rfl h15 (by decide) (fun c16 => ?_) (fun c16 => ?_)
          · replace k := k.1 c16
            refine w_aload_n (q := 193) rfl rfl rfl ?_
            refine w_iload (q := 195) rfl rfl rfl ?_
            refine w_iload (q := 197) rfl rfl rfl ?_
            refine w_iload (q := 199) rfl rfl rfl ?_
            refine w_callv (q := 202) rfl rfl rfl rfl rfl rfl ?_
            exact k
          · replace k := k.2 c16
            refine w_aload_n (q := 180) rfl rfl rfl ?_
            refine w_iload (q := 182) rfl rfl rfl ?_
            refine w_iload (q := 184) rfl rfl rfl ?_
            refine w_iload (q := 186) rfl rfl rfl ?_
            refine w_callv (q := 189) rfl rfl rfl rfl rfl rfl ?_
            exact k
      · replace k := k.2 c10
        refine w_iload_n (q := 107) rfl rfl rfl ?_
        obtain ⟨h17, k⟩ := k
        refine w_zle (t := 211) (q := 110) rfl rfl rfl h17 (fun c18 => ?_) (fun c18 => ?_)
        · replace k := k.1 c18
          refine w_iinc (q := 214) (L' := [some (.ref 79), some (w_i l1), some (w_i l2), some (w_i (l3 + 1)), some (w_i (I 5 l3)), u5, u6, u7]) (M' := []) rfl rfl rfl rfl rfl rfl ?_
          refine w_goto (t := 24) rfl rfl ?_
          exact k
        · replace k := k.2 c18
          refine w_aload_n (q := 111) rfl rfl rfl ?_
          refine w_gfr (q := 114) rfl rfl rfl rfl (j := 81) rfl ?_
          refine w_iload_n (q := 115) rfl rfl rfl ?_
          refine w_iconst (q := 116) rfl rfl ?_
          refine w_isub (q := 117) rfl rfl ?_
          refine w_iconst (q := 118) rfl rfl ?_
          refine w_aload_n (q := 119) rfl rfl rfl ?_
          refine w_gfr (q := 122) rfl rfl rfl rfl (j := 81) rfl ?_
          refine w_iload_n (q := 123) rfl rfl rfl ?_
          refine w_iconst (q := 124) rfl rfl ?_
          refine w_isub (q := 125) rfl rfl ?_
          obtain ⟨h19, k⟩ := k
          refine w_iald (q := 126) (n := 32) (v := I 81 (l2 - 1)) rfl rfl rfl rfl rfl rfl h19 ?_
          refine w_isub (q := 127) rfl rfl ?_
          refine w_iast (q := 128) (n := 32) rfl rfl rfl rfl rfl h19 ?_
          refine w_goto (t := 211) rfl rfl ?_
          refine w_iinc (q := 214) (L' := [some (.ref 79), some (w_i l1), some (w_i l2), some (w_i (l3 + 1)), some (w_i (I 5 l3)), u5, u6, u7]) (M' := []) rfl rfl rfl rfl rfl rfl ?_
          refine w_goto (t := 24) rfl rfl ?_
          exact k
    · replace k := k.2 c9
      refine w_iload_n (q := 57) rfl rfl rfl ?_
      refine w_bipush (q := 59) rfl rfl rfl ?_
      obtain ⟨h20, k⟩ := k
      refine w_cge (t := 211) (q := 62) rfl rfl rfl h20 (by decide) (fun c21 => ?_) (fun c21 => ?_)
      · replace k := k.1 c21
        refine w_iinc (q := 214) (L' := [some (.ref 79), some (w_i l1), some (w_i l2), some (w_i (l3 + 1)), some (w_i (I 5 l3)), u5, u6, u7]) (M' := []) rfl rfl rfl rfl rfl rfl ?_
        refine w_goto (t := 24) rfl rfl ?_
        exact k
      · replace k := k.2 c21
        refine w_aload_n (q := 63) rfl rfl rfl ?_
        refine w_gfr (q := 66) rfl rfl rfl rfl (j := 81) rfl ?_
        refine w_iload_n (q := 67) rfl rfl rfl ?_
        refine w_iload (q := 69) rfl rfl rfl ?_
        refine w_sipush (q := 72) rfl rfl rfl ?_
        refine w_cge (t := 80) (q := 75) rfl rfl rfl h8 (by decide) (fun c22 => ?_) (fun c22 => ?_)
        · replace k := k.1 c22
          refine w_aload_n (q := 81) rfl rfl rfl ?_
          refine w_gfr (q := 84) rfl rfl rfl rfl (j := 80) rfl ?_
          refine w_iload (q := 86) rfl rfl rfl ?_
          refine w_sipush (q := 89) rfl rfl rfl ?_
          refine w_isub (q := 90) rfl rfl ?_
          obtain ⟨h23, k⟩ := k
          refine w_iald (q := 91) (n := 10) (v := I 80 (I 5 l3 - 10000)) rfl rfl rfl rfl rfl rfl h23 ?_
          obtain ⟨h24, k⟩ := k
          refine w_iast (q := 92) (n := 32) rfl rfl rfl rfl rfl h24 ?_
          refine w_iinc (q := 95) (L' := [some (.ref 79), some (w_i l1), some (w_i (l2 + 1)), some (w_i l3), some (w_i (I 5 l3)), u5, u6, u7]) (M' := []) rfl rfl rfl rfl rfl rfl ?_
          refine w_goto (t := 211) rfl rfl ?_
          refine w_iinc (q := 214) (L' := [some (.ref 79), some (w_i l1), some (w_i (l2 + 1)), some (w_i (l3 + 1)), some (w_i (I 5 l3)), u5, u6, u7]) (M' := []) rfl rfl rfl rfl rfl rfl ?_
          refine w_goto (t := 24) rfl rfl ?_
          exact k
        · replace k := k.2 c22
          refine w_iload (q := 77) rfl rfl rfl ?_
          refine w_goto (t := 91) rfl rfl ?_
          obtain ⟨h25, k⟩ := k
          refine w_iast (q := 92) (n := 32) rfl rfl rfl rfl rfl h25 ?_
          refine w_iinc (q := 95) (L' := [some (.ref 79), some (w_i l1), some (w_i (l2 + 1)), some (w_i l3), some (w_i (I 5 l3)), u5, u6, u7]) (M' := []) rfl rfl rfl rfl rfl rfl ?_
          refine w_goto (t := 211) rfl rfl ?_
          refine w_iinc (q := 214) (L' := [some (.ref 79), some (w_i l1), some (w_i (l2 + 1)), some (w_i (l3 + 1)), some (w_i (I 5 l3)), u5, u6, u7]) (M' := []) rfl rfl rfl rfl rfl rfl ?_
          refine w_goto (t := 24) rfl rfl ?_
          exact k
theorem b96_202 {xs : Nat → Int32} {xl : Nat} {I J : w_I} {b : Bool} {Q : Option Value → w_I → w_I → Bool → Prop} {l1 l2 l3 s1 s2 : Int} {u4 u5 u6 u7 : Option Value} (k : ((-2147483648 ≤ s2 ∧ s2 < 2147483648) ∧ ((s2 = 0 → ((0 ≤ s1 ∧ s1 < 32) ∧ w_T xs xl 96 24 [some (.ref 79), some (w_i l1), some (w_i l2), some (w_i (l3 + 1)), u4, u5, u6, u7] [] [] (w_U I 81 s1 0) J b Q)) ∧ (¬ s2 = 0 → ((0 ≤ s1 ∧ s1 < 32) ∧ w_T xs xl 96 24 [some (.ref 79), some (w_i l1), some (w_i l2), some (w_i (l3 + 1)), u4, u5, u6, u7] [] [] (w_U I 81 s1 1) J b Q))))) : w_T xs xl 96 202 [some (.ref 79), some (w_i l1), some (w_i l2), some (w_i l3), u4, u5, u6, u7] [] [w_i s2, w_i s1, .ref 81] I J b Q := by
  obtain ⟨h1, k⟩ := k
  refine w_zeq (t := 209) (q := 205) rfl rfl rfl h1 (fun c2 => ?_) (fun c2 => ?_)
  · replace k := k.1 c2
    refine w_iconst (q := 210) rfl rfl ?_
    obtain ⟨h3, k⟩ := k
    refine w_iast (q := 211) (n := 32) rfl rfl rfl rfl rfl h3 ?_
    refine w_iinc (q := 214) (L' := [some (.ref 79), some (w_i l1), some (w_i l2), some (w_i (l3 + 1)), u4, u5, u6, u7]) (M' := []) rfl rfl rfl rfl rfl rfl ?_
    refine w_goto (t := 24) rfl rfl ?_
    exact k
  · replace k := k.2 c2
    refine w_iconst (q := 206) rfl rfl ?_
    refine w_goto (t := 210) rfl rfl ?_
    obtain ⟨h4, k⟩ := k
    refine w_iast (q := 211) (n := 32) rfl rfl rfl rfl rfl h4 ?_
    refine w_iinc (q := 214) (L' := [some (.ref 79), some (w_i l1), some (w_i l2), some (w_i (l3 + 1)), u4, u5, u6, u7]) (M' := []) rfl rfl rfl rfl rfl rfl ?_
    refine w_goto (t := 24) rfl rfl ?_
    exact k
theorem b96_189 {xs : Nat → Int32} {xl : Nat} {I J : w_I} {b : Bool} {Q : Option Value → w_I → w_I → Bool → Prop} {l1 l2 l3 s1 s2 : Int} {u4 u5 u6 u7 : Option Value} (k : ((0 ≤ s1 ∧ s1 < 32) ∧ w_T xs xl 96 24 [some (.ref 79), some (w_i l1), some (w_i l2), some (w_i (l3 + 1)), u4, u5, u6, u7] [] [] (w_U I 81 s1 s2) J b Q)) : w_T xs xl 96 189 [some (.ref 79), some (w_i l1), some (w_i l2), some (w_i l3), u4, u5, u6, u7] [] [w_i s2, w_i s1, .ref 81] I J b Q := by
  refine w_goto (t := 210) rfl rfl ?_
  obtain ⟨h1, k⟩ := k
  refine w_iast (q := 211) (n := 32) rfl rfl rfl rfl rfl h1 ?_
  refine w_iinc (q := 214) (L' := [some (.ref 79), some (w_i l1), some (w_i l2), some (w_i (l3 + 1)), u4, u5, u6, u7]) (M' := []) rfl rfl rfl rfl rfl rfl ?_
  refine w_goto (t := 24) rfl rfl ?_
  exact k
theorem e97 {xs : Nat → Int32} {xl : Nat} {I J : w_I} {b : Bool} {Q : Option Value → w_I → w_I → Bool → Prop} {a1 a2 a3 : Int} (t : w_T xs xl 97 0 [some (.ref 79), some (w_i a1), some (w_i a2), some (w_i a3)] [] [] I J b Q) : w_C xs xl 97 [.ref 79, w_i a1, w_i a2, w_i a3] I J b Q := w_en rfl t
theorem b97_0 {xs : Nat → Int32} {xl : Nat} {I J : w_I} {b : Bool} {Q : Option Value → w_I → w_I → Bool → Prop} {a1 a2 a3 : Int} (k : ((-2147483648 ≤ a1 ∧ a1 < 2147483648) ∧ ((a1 = 6 → Q (some (w_i (a2 + a3))) I J b) ∧ (¬ a1 = 6 → ((a1 = 7 → Q (some (w_i (a2 - a3))) I J b) ∧ (¬ a1 = 7 → ((a1 = 8 → Q (some (w_i (a2 * a3))) I J b) ∧ (¬ a1 = 8 → ((-2147483648 ≤ a3 ∧ a3 < 2147483648) ∧ ((¬ a3 = 0 → ((-2147483648 ≤ a2 ∧ a2 < 2147483648) ∧ ¬ a3 = 0 ∧ Q (some (w_i (a2.tdiv a3))) I J b)) ∧ (a3 = 0 → Q (some (w_i 0)) (w_U I 79 3 1) J b))))))))))) : w_T xs xl 97 0 [some (.ref 79), some (w_i a1), some (w_i a2), some (w_i a3)] [] [] I J b Q := by
  refine w_iload_n (q := 1) rfl rfl rfl ?_
  obtain ⟨h1, k⟩ := k
  rcases Decidable.em (a1 = 6) with c2 | c2
  · replace k := k.1 c2
    refine w_tsw (t := 28) rfl h1 (by rw [c2]; rfl) ?_
    refine w_iload_n (q := 29) rfl rfl rfl ?_
    refine w_iload_n (q := 30) rfl rfl rfl ?_
    refine w_iadd (q := 31) rfl rfl ?_
    exact w_iret rfl rfl k
  · replace k := k.2 c2
    rcases Decidable.em (a1 = 7) with c3 | c3
    · replace k := k.1 c3
      refine w_tsw (t := 32) rfl h1 (by rw [c3]; rfl) ?_
      refine w_iload_n (q := 33) rfl rfl rfl ?_
      refine w_iload_n (q := 34) rfl rfl rfl ?_
      refine w_isub (q := 35) rfl rfl ?_
      exact w_iret rfl rfl k
    · replace k := k.2 c3
      rcases Decidable.em (a1 = 8) with c4 | c4
      · replace k := k.1 c4
        refine w_tsw (t := 36) rfl h1 (by rw [c4]; rfl) ?_
        refine w_iload_n (q := 37) rfl rfl rfl ?_
        refine w_iload_n (q := 38) rfl rfl rfl ?_
        refine w_imul (q := 39) rfl rfl ?_
        exact w_iret rfl rfl k
      · replace k := k.2 c4
        have hd : a1 < 6 ∨ 8 < a1 := by omega
        refine w_tsw (t := 40) rfl h1 (by rw [if_pos hd]; rfl) ?_
        refine w_iload_n (q := 41) rfl rfl rfl ?_
        obtain ⟨h5, k⟩ := k
        refine w_zne (t := 51) (q := 44) rfl rfl rfl h5 (fun c6 => ?_) (fun c6 => ?_)
        · replace k := k.1 c6
          refine w_iload_n (q := 52) rfl rfl rfl ?_
          refine w_iload_n (q := 53) rfl rfl rfl ?_
          obtain ⟨h7, h8, k⟩ := k
          refine w_idivG (q := 54) rfl rfl h7 h5 h8 ?_
          exact w_iret rfl rfl k
        · replace k := k.2 c6
          refine w_aload_n (q := 45) rfl rfl rfl ?_
          refine w_iconst (q := 46) rfl rfl ?_
          refine w_pfz (q := 49) (k' := 3) rfl rfl rfl rfl (by decide) ?_
          refine w_iconst (q := 50) rfl rfl ?_
          exact w_iret rfl rfl k
theorem e98 {xs : Nat → Int32} {xl : Nat} {I J : w_I} {b : Bool} {Q : Option Value → w_I → w_I → Bool → Prop} {a1 a2 a3 : Int} (t : w_T xs xl 98 0 [some (.ref 79), some (w_i a1), some (w_i a2), some (w_i a3), none] [] [] I J b Q) : w_C xs xl 98 [.ref 79, w_i a1, w_i a2, w_i a3] I J b Q := w_en rfl t
theorem b98_0 {xs : Nat → Int32} {xl : Nat} {I J : w_I} {b : Bool} {Q : Option Value → w_I → w_I → Bool → Prop} {a1 a2 a3 : Int} (k : ((-2147483648 ≤ a1 ∧ a1 < 2147483648) ∧ ((a1 = 10 → ((-2147483648 ≤ I 79 3 ∧ I 79 3 < 2147483648) ∧ ((¬ I 79 3 = 0 → Q (some (w_i 0)) (w_U I 79 3 0) J b) ∧ (I 79 3 = 0 → ((-2147483648 ≤ a2 ∧ a2 < 2147483648) ∧ (-2147483648 ≤ a3 ∧ a3 < 2147483648) ∧ ((¬ a2 = a3 → Q (some (w_i 0)) (w_U I 79 3 0) J b) ∧ (a2 = a3 → Q (some (w_i 1)) (w_U I 79 3 0) J b))))))) ∧ (¬ a1 = 10 → ((a1 = 11 → ((-2147483648 ≤ I 79 3 ∧ I 79 3 < 2147483648) ∧ ((¬ I 79 3 = 0 → Q (some (w_i 0)) (w_U I 79 3 0) J b) ∧ (I 79 3 = 0 → ((-2147483648 ≤ a2 ∧ a2 < 2147483648) ∧ (-2147483648 ≤ a3 ∧ a3 < 2147483648) ∧ ((a2 = a3 → Q (some (w_i 0)) (w_U I 79 3 0) J b) ∧ (¬ a2 = a3 → Q (some (w_i 1)) (w_U I 79 3 0) J b))))))) ∧ (¬ a1 = 11 → ((a1 = 12 → ((-2147483648 ≤ I 79 3 ∧ I 79 3 < 2147483648) ∧ ((¬ I 79 3 = 0 → Q (some (w_i 0)) (w_U I 79 3 0) J b) ∧ (I 79 3 = 0 → ((-2147483648 ≤ a2 ∧ a2 < 2147483648) ∧ (-2147483648 ≤ a3 ∧ a3 < 2147483648) ∧ ((a3 ≤ a2 → Q (some (w_i 0)) (w_U I 79 3 0) J b) ∧ (¬ a3 ≤ a2 → Q (some (w_i 1)) (w_U I 79 3 0) J b))))))) ∧ (¬ a1 = 12 → ((a1 = 34 → ((-2147483648 ≤ w_or a2 a3 ∧ w_or a2 a3 < 2147483648) ∧ ((w_or a2 a3 = 0 → Q (some (w_i 0)) (w_U I 79 3 0) J b) ∧ (¬ w_or a2 a3 = 0 → Q (some (w_i 1)) (w_U I 79 3 0) J b)))) ∧ (¬ a1 = 34 → ((a1 = 35 → ((-2147483648 ≤ w_and a2 a3 ∧ w_and a2 a3 < 2147483648) ∧ ((w_and a2 a3 = 0 → Q (some (w_i 0)) (w_U I 79 3 0) J b) ∧ (¬ w_and a2 a3 = 0 → Q (some (w_i 1)) (w_U I 79 3 0) J b)))) ∧ (¬ a1 = 35 → ((-2147483648 ≤ I 79 3 ∧ I 79 3 < 2147483648) ∧ ((¬ I 79 3 = 0 → Q (some (w_i 0)) (w_U I 79 3 0) J b) ∧ (I 79 3 = 0 → ((-2147483648 ≤ a2 ∧ a2 < 2147483648) ∧ (-2147483648 ≤ a3 ∧ a3 < 2147483648) ∧ ((a3 < a2 → Q (some (w_i 0)) (w_U I 79 3 0) J b) ∧ (¬ a3 < a2 → Q (some (w_i 1)) (w_U I 79 3 0) J b)))))))))))))))))) : w_T xs xl 98 0 [some (.ref 79), some (w_i a1), some (w_i a2), some (w_i a3), none] [] [] I J b Q := by
  refine w_aload_n (q := 1) rfl rfl rfl ?_
  refine w_gfi (q := 4) (k' := 3) (v := I 79 3) rfl rfl rfl rfl rfl rfl rfl ?_
  refine w_istore (q := 6) (L' := [some (.ref 79), some (w_i a1), some (w_i a2), some (w_i a3), some (w_i (I 79 3))]) (M' := []) rfl rfl rfl rfl rfl ?_
  refine w_aload_n (q := 7) rfl rfl rfl ?_
  refine w_iconst (q := 8) rfl rfl ?_
  refine w_pfz (q := 11) (k' := 3) rfl rfl rfl rfl (by decide) ?_
  refine w_iload_n (q := 12) rfl rfl rfl ?_
  obtain ⟨h1, k⟩ := k
  rcases Decidable.em (a1 = 10) with c2 | c2
  · replace k := k.1 c2
    refine w_lsw (t := 88) rfl h1 (by rw [c2]; rfl) ?_
    refine w_iload (q := 90) rfl rfl rfl ?_
    obtain ⟨h3, k⟩ := k
    refine w_zne (t := 102) (q := 93) rfl rfl rfl h3 (fun c4 => ?_) (fun c4 => ?_)
    · replace k := k.1 c4
      refine w_iconst (q := 103) rfl rfl ?_
      refine w_iret rfl rfl k
    · replace k := k.2 c4
      refine w_iload_n (q := 94) rfl rfl rfl ?_
      refine w_iload_n (q := 95) rfl rfl rfl ?_
      obtain ⟨h5, h6, k⟩ := k
      refine w_cne (t := 102) (q := 98) rfl rfl rfl h5 h6 (fun c7 => ?_) (fun c7 => ?_)
      · replace k := k.1 c7
        refine w_iconst (q := 103) rfl rfl ?_
        refine w_iret rfl rfl k
      · replace k := k.2 c7
        refine w_iconst (q := 99) rfl rfl ?_
        refine w_goto (t := 103) rfl rfl ?_
        refine w_iret rfl rfl k
  · replace k := k.2 c2
    rcases Decidable.em (a1 = 11) with c8 | c8
    · replace k := k.1 c8
      refine w_lsw (t := 104) rfl h1 (by rw [c8]; rfl) ?_
      refine w_iload (q := 106) rfl rfl rfl ?_
      obtain ⟨h9, k⟩ := k
      refine w_zne (t := 118) (q := 109) rfl rfl rfl h9 (fun c10 => ?_) (fun c10 => ?_)
      · replace k := k.1 c10
        refine w_iconst (q := 119) rfl rfl ?_
        refine w_iret rfl rfl k
      · replace k := k.2 c10
        refine w_iload_n (q := 110) rfl rfl rfl ?_
        refine w_iload_n (q := 111) rfl rfl rfl ?_
        obtain ⟨h11, h12, k⟩ := k
        refine w_ceq (t := 118) (q := 114) rfl rfl rfl h11 h12 (fun c13 => ?_) (fun c13 => ?_)
        · replace k := k.1 c13
          refine w_iconst (q := 119) rfl rfl ?_
          refine w_iret rfl rfl k
        · replace k := k.2 c13
          refine w_iconst (q := 115) rfl rfl ?_
          refine w_goto (t := 119) rfl rfl ?_
          refine w_iret rfl rfl k
    · replace k := k.2 c8
      rcases Decidable.em (a1 = 12) with c14 | c14
      · replace k := k.1 c14
        refine w_lsw (t := 120) rfl h1 (by rw [c14]; rfl) ?_
        refine w_iload (q := 122) rfl rfl rfl ?_
        obtain ⟨h15, k⟩ := k
        refine w_zne (t := 134) (q := 125) rfl rfl rfl h15 (fun c16 => ?_) (fun c16 => ?_)
        · replace k := k.1 c16
          refine w_iconst (q := 135) rfl rfl ?_
          refine w_iret rfl rfl k
        · replace k := k.2 c16
          refine w_iload_n (q := 126) rfl rfl rfl ?_
          refine w_iload_n (q := 127) rfl rfl rfl ?_
          obtain ⟨h17, h18, k⟩ := k
          refine w_cge (t := 134) (q := 130) rfl rfl rfl h17 h18 (fun c19 => ?_) (fun c19 => ?_)
          · replace k := k.1 c19
            refine w_iconst (q := 135) rfl rfl ?_
            refine w_iret rfl rfl k
          · replace k := k.2 c19
            refine w_iconst (q := 131) rfl rfl ?_
            refine w_goto (t := 135) rfl rfl ?_
            refine w_iret rfl rfl k
      · replace k := k.2 c14
        rcases Decidable.em (a1 = 34) with c20 | c20
        · replace k := k.1 c20
          refine w_lsw (t := 76) rfl h1 (by rw [c20]; rfl) ?_
          refine w_iload_n (q := 77) rfl rfl rfl ?_
          refine w_iload_n (q := 78) rfl rfl rfl ?_
          refine w_ior (q := 79) rfl rfl ?_
          obtain ⟨h21, k⟩ := k
          refine w_zeq (t := 86) (q := 82) rfl rfl rfl h21 (fun c22 => ?_) (fun c22 => ?_)
          · replace k := k.1 c22
            refine w_iconst (q := 87) rfl rfl ?_
            refine w_iret rfl rfl k
          · replace k := k.2 c22
            refine w_iconst (q := 83) rfl rfl ?_
            refine w_goto (t := 87) rfl rfl ?_
            refine w_iret rfl rfl k
        · replace k := k.2 c20
          rcases Decidable.em (a1 = 35) with c23 | c23
          · replace k := k.1 c23
            refine w_lsw (t := 64) rfl h1 (by rw [c23]; rfl) ?_
            refine w_iload_n (q := 65) rfl rfl rfl ?_
            refine w_iload_n (q := 66) rfl rfl rfl ?_
            refine w_iand (q := 67) rfl rfl ?_
            obtain ⟨h24, k⟩ := k
            refine w_zeq (t := 74) (q := 70) rfl rfl rfl h24 (fun c25 => ?_) (fun c25 => ?_)
            · replace k := k.1 c25
              refine w_iconst (q := 75) rfl rfl ?_
              refine w_iret rfl rfl k
            · replace k := k.2 c25
              refine w_iconst (q := 71) rfl rfl ?_
              refine w_goto (t := 75) rfl rfl ?_
              refine w_iret rfl rfl k
          · replace k := k.2 c23
            refine w_lsw (t := 136) rfl h1 (by simp only [Op.lookupswitch.offset]; rw [if_neg (fun h => c2 h.symm), if_neg (fun h => c8 h.symm), if_neg (fun h => c14 h.symm), if_neg (fun h => c20 h.symm), if_neg (fun h => c23 h.symm)]; rfl) ?_
            refine w_iload (q := 138) rfl rfl rfl ?_
            obtain ⟨h26, k⟩ := k
            refine w_zne (t := 150) (q := 141) rfl rfl rfl h26 (fun c27 => ?_) (fun c27 => ?_)
            · replace k := k.1 c27
              refine w_iconst (q := 151) rfl rfl ?_
              refine w_iret rfl rfl k
            · replace k := k.2 c27
              refine w_iload_n (q := 142) rfl rfl rfl ?_
              refine w_iload_n (q := 143) rfl rfl rfl ?_
              obtain ⟨h28, h29, k⟩ := k
              refine w_cgt (t := 150) (q := 146) rfl rfl rfl h28 h29 (fun c30 => ?_) (fun c30 => ?_)
              · replace k := k.1 c30
                refine w_iconst (q := 151) rfl rfl ?_
                refine w_iret rfl rfl k
              · replace k := k.2 c30
                refine w_iconst (q := 147) rfl rfl ?_
                refine w_goto (t := 151) rfl rfl ?_
                refine w_iret rfl rfl k
theorem e100 {xs : Nat → Int32} {xl : Nat} {I J : w_I} {b : Bool} {Q : Option Value → w_I → w_I → Bool → Prop} (t : w_T xs xl 100 0 [some (.ref 9)] [] [] I J b Q) : w_C xs xl 100 [.ref 9] I J b Q := w_en rfl t
theorem b100_0 {xs : Nat → Int32} {xl : Nat} {I J : w_I} {b : Bool} {Q : Option Value → w_I → w_I → Bool → Prop} (k : w_C xs xl 101 [.ref 9, w_i 0, w_i 1] (w_U (w_U (w_U (w_U (w_U (w_U I 9 5 0) 9 6 1) 9 7 3) 9 8 0) 9 9 0) 9 10 0) J b (fun v Ic Jc bc => w_T xs xl 100 36 [some (.ref 9)] [] (w_pv v []) Ic Jc bc Q)) : w_T xs xl 100 0 [some (.ref 9)] [] [] I J b Q := by
  refine w_aload_n (q := 1) rfl rfl rfl ?_
  refine w_iconst (q := 2) rfl rfl ?_
  refine w_pfi (q := 5) (k' := 5) rfl rfl rfl rfl ?_
  refine w_aload_n (q := 6) rfl rfl rfl ?_
  refine w_iconst (q := 7) rfl rfl ?_
  refine w_pfi (q := 10) (k' := 6) rfl rfl rfl rfl ?_
  refine w_aload_n (q := 11) rfl rfl rfl ?_
  refine w_iconst (q := 12) rfl rfl ?_
  refine w_pfi (q := 15) (k' := 7) rfl rfl rfl rfl ?_
  refine w_aload_n (q := 16) rfl rfl rfl ?_
  refine w_iconst (q := 17) rfl rfl ?_
  refine w_pfi (q := 20) (k' := 8) rfl rfl rfl rfl ?_
  refine w_aload_n (q := 21) rfl rfl rfl ?_
  refine w_iconst (q := 22) rfl rfl ?_
  refine w_pfi (q := 25) (k' := 9) rfl rfl rfl rfl ?_
  refine w_aload_n (q := 26) rfl rfl rfl ?_
  refine w_iconst (q := 27) rfl rfl ?_
  refine w_pfz (q := 30) (k' := 10) rfl rfl rfl rfl (by decide) ?_
  refine w_aload_n (q := 31) rfl rfl rfl ?_
  refine w_iconst (q := 32) rfl rfl ?_
  refine w_iconst (q := 33) rfl rfl ?_
  refine w_callv (q := 36) rfl rfl rfl rfl rfl rfl ?_
  exact k
theorem b100_36 {xs : Nat → Int32} {xl : Nat} {I J : w_I} {b : Bool} {Q : Option Value → w_I → w_I → Bool → Prop} (k : w_C xs xl 101 [.ref 9, w_i 1, w_i 10009] I J b (fun v Ic Jc bc => w_T xs xl 100 44 [some (.ref 9)] [] (w_pv v []) Ic Jc bc Q)) : w_T xs xl 100 36 [some (.ref 9)] [] [] I J b Q := by
  refine w_aload_n (q := 37) rfl rfl rfl ?_
  refine w_iconst (q := 38) rfl rfl ?_
  refine w_sipush (q := 41) rfl rfl rfl ?_
  refine w_callv (q := 44) rfl rfl rfl rfl rfl rfl ?_
  exact k
theorem b100_44 {xs : Nat → Int32} {xl : Nat} {I J : w_I} {b : Bool} {Q : Option Value → w_I → w_I → Bool → Prop} (k : w_C xs xl 101 [.ref 9, w_i 2, w_i 1] I J b (fun v Ic Jc bc => w_T xs xl 100 50 [some (.ref 9)] [] (w_pv v []) Ic Jc bc Q)) : w_T xs xl 100 44 [some (.ref 9)] [] [] I J b Q := by
  refine w_aload_n (q := 45) rfl rfl rfl ?_
  refine w_iconst (q := 46) rfl rfl ?_
  refine w_iconst (q := 47) rfl rfl ?_
  refine w_callv (q := 50) rfl rfl rfl rfl rfl rfl ?_
  exact k
theorem b100_50 {xs : Nat → Int32} {xl : Nat} {I J : w_I} {b : Bool} {Q : Option Value → w_I → w_I → Bool → Prop} (k : w_C xs xl 101 [.ref 9, w_i 3, w_i 0] I J b (fun v Ic Jc bc => w_T xs xl 100 56 [some (.ref 9)] [] (w_pv v []) Ic Jc bc Q)) : w_T xs xl 100 50 [some (.ref 9)] [] [] I J b Q := by
  refine w_aload_n (q := 51) rfl rfl rfl ?_
  refine w_iconst (q := 52) rfl rfl ?_
  refine w_iconst (q := 53) rfl rfl ?_
  refine w_callv (q := 56) rfl rfl rfl rfl rfl rfl ?_
  exact k
theorem b100_56 {xs : Nat → Int32} {xl : Nat} {I J : w_I} {b : Bool} {Q : Option Value → w_I → w_I → Bool → Prop} (k : Q none I J b) : w_T xs xl 100 56 [some (.ref 9)] [] [] I J b Q := by
  exact w_vret rfl k
theorem e101 {xs : Nat → Int32} {xl : Nat} {I J : w_I} {b : Bool} {Q : Option Value → w_I → w_I → Bool → Prop} {a1 a2 : Int} (t : w_T xs xl 101 0 [some (.ref 9), some (w_i a1), some (w_i a2)] [] [] I J b Q) : w_C xs xl 101 [.ref 9, w_i a1, w_i a2] I J b Q := w_en rfl t
theorem b101_0 {xs : Nat → Int32} {xl : Nat} {I J : w_I} {b : Bool} {Q : Option Value → w_I → w_I → Bool → Prop} {a1 a2 : Int} (k : ((0 ≤ a1 ∧ a1 < 10) ∧ w_C xs xl 102 [.ref 9, w_i a2] (w_U I 13 a1 (I 9 9)) J b (fun v Ic Jc bc => w_T xs xl 101 15 [some (.ref 9), some (w_i a1), some (w_i a2)] [] (w_pv v []) Ic Jc bc Q))) : w_T xs xl 101 0 [some (.ref 9), some (w_i a1), some (w_i a2)] [] [] I J b Q := by
  refine w_aload_n (q := 1) rfl rfl rfl ?_
  refine w_gfr (q := 4) rfl rfl rfl rfl (j := 13) rfl ?_
  refine w_iload_n (q := 5) rfl rfl rfl ?_
  refine w_aload_n (q := 6) rfl rfl rfl ?_
  refine w_gfi (q := 9) (k' := 9) (v := I 9 9) rfl rfl rfl rfl rfl rfl rfl ?_
  obtain ⟨h1, k⟩ := k
  refine w_iast (q := 10) (n := 10) rfl rfl rfl rfl rfl h1 ?_
  refine w_aload_n (q := 11) rfl rfl rfl ?_
  refine w_iload_n (q := 12) rfl rfl rfl ?_
  refine w_callv (q := 15) rfl rfl rfl rfl rfl rfl ?_
  exact k
theorem b101_15 {xs : Nat → Int32} {xl : Nat} {I J : w_I} {b : Bool} {Q : Option Value → w_I → w_I → Bool → Prop} {l1 : Int} {u2 : Option Value} (k : ((0 ≤ l1 ∧ l1 < 10) ∧ Q none (w_U I 14 l1 (I 9 9)) J b)) : w_T xs xl 101 15 [some (.ref 9), some (w_i l1), u2] [] [] I J b Q := by
  refine w_aload_n (q := 16) rfl rfl rfl ?_
  refine w_gfr (q := 19) rfl rfl rfl rfl (j := 14) rfl ?_
  refine w_iload_n (q := 20) rfl rfl rfl ?_
  refine w_aload_n (q := 21) rfl rfl rfl ?_
  refine w_gfi (q := 24) (k' := 9) (v := I 9 9) rfl rfl rfl rfl rfl rfl rfl ?_
  obtain ⟨h1, k⟩ := k
  refine w_iast (q := 25) (n := 10) rfl rfl rfl rfl rfl h1 ?_
  exact w_vret rfl k
theorem e102 {xs : Nat → Int32} {xl : Nat} {I J : w_I} {b : Bool} {Q : Option Value → w_I → w_I → Bool → Prop} {a1 : Int} (t : w_T xs xl 102 0 [some (.ref 9), some (w_i a1)] [] [] I J b Q) : w_C xs xl 102 [.ref 9, w_i a1] I J b Q := w_en rfl t
theorem b102_0 {xs : Nat → Int32} {xl : Nat} {I J : w_I} {b : Bool} {Q : Option Value → w_I → w_I → Bool → Prop} {a1 : Int} (k : ((-2147483648 ≤ I 9 9 ∧ I 9 9 < 2147483648) ∧ ((404 ≤ I 9 9 → Q none I J b) ∧ (¬ 404 ≤ I 9 9 → ((0 ≤ I 9 9 ∧ I 9 9 < 404) ∧ Q none (w_U (w_U I 12 (I 9 9) a1) 9 9 (I 9 9 + 1)) J b))))) : w_T xs xl 102 0 [some (.ref 9), some (w_i a1)] [] [] I J b Q := by
  refine w_aload_n (q := 1) rfl rfl rfl ?_
  refine w_gfi (q := 4) (k' := 9) (v := I 9 9) rfl rfl rfl rfl rfl rfl rfl ?_
  refine w_sipush (q := 7) rfl rfl rfl ?_
  obtain ⟨h1, k⟩ := k
  refine w_cge (t := 30) (q := 10) rfl rfl rfl h1 (by decide) (fun c2 => ?_) (fun c2 => ?_)
  · replace k := k.1 c2
    exact w_vret rfl k
  · replace k := k.2 c2
    refine w_aload_n (q := 11) rfl rfl rfl ?_
    refine w_gfr (q := 14) rfl rfl rfl rfl (j := 12) rfl ?_
    refine w_aload_n (q := 15) rfl rfl rfl ?_
    refine w_gfi (q := 18) (k' := 9) (v := I 9 9) rfl rfl rfl rfl rfl rfl rfl ?_
    refine w_iload_n (q := 19) rfl rfl rfl ?_
    obtain ⟨h3, k⟩ := k
    refine w_iast (q := 20) (n := 404) rfl rfl rfl rfl rfl h3 ?_
    refine w_aload_n (q := 21) rfl rfl rfl ?_
    refine w_dup (q := 22) rfl rfl rfl ?_
    refine w_gfi (q := 25) (k' := 9) (v := I 9 9) rfl rfl rfl rfl rfl rfl rfl ?_
    refine w_iconst (q := 26) rfl rfl ?_
    refine w_iadd (q := 27) rfl rfl ?_
    refine w_pfi (q := 30) (k' := 9) rfl rfl rfl rfl ?_
    exact w_vret rfl k
theorem e103 {xs : Nat → Int32} {xl : Nat} {I J : w_I} {b : Bool} {Q : Option Value → w_I → w_I → Bool → Prop} (t : w_T xs xl 103 0 [some (.ref 2), some (.ref 9)] [] [] I J b Q) : w_C xs xl 103 [.ref 2, .ref 9] I J b Q := w_en rfl t
theorem b103_0 {xs : Nat → Int32} {xl : Nat} {I J : w_I} {b : Bool} {Q : Option Value → w_I → w_I → Bool → Prop} (k : ((I 9 10 = 0 ∨ I 9 10 = 1) ∧ Q none (w_U (w_U (w_U (w_U (w_U (w_U (w_cp (w_cp (w_cp (w_cp (w_cp I 3 10 0 0 24) 4 11 0 0 24) 5 12 0 0 404) 6 13 0 0 10) 7 14 0 0 10) 2 5 (I 9 5)) 2 6 (I 9 6)) 2 7 (I 9 7)) 2 8 (I 9 8)) 2 9 (I 9 9)) 2 10 (I 9 10)) J b)) : w_T xs xl 103 0 [some (.ref 2), some (.ref 9)] [] [] I J b Q := by
  refine w_aload_n (q := 1) rfl rfl rfl ?_
  refine w_gfr (q := 4) rfl rfl rfl rfl (j := 10) rfl ?_
  refine w_iconst (q := 5) rfl rfl ?_
  refine w_aload_n (q := 6) rfl rfl rfl ?_
  refine w_gfr (q := 9) rfl rfl rfl rfl (j := 3) rfl ?_
  refine w_iconst (q := 10) rfl rfl ?_
  refine w_bipush (q := 12) rfl rfl rfl ?_
  refine w_copy (q := 15) rfl rfl (n1 := 24) (n0 := 24) rfl rfl rfl rfl rfl (by decide) ?_
  refine w_aload_n (q := 16) rfl rfl rfl ?_
  refine w_gfr (q := 19) rfl rfl rfl rfl (j := 11) rfl ?_
  refine w_iconst (q := 20) rfl rfl ?_
  refine w_aload_n (q := 21) rfl rfl rfl ?_
  refine w_gfr (q := 24) rfl rfl rfl rfl (j := 4) rfl ?_
  refine w_iconst (q := 25) rfl rfl ?_
  refine w_bipush (q := 27) rfl rfl rfl ?_
  refine w_copy (q := 30) rfl rfl (n1 := 24) (n0 := 24) rfl rfl rfl rfl rfl (by decide) ?_
  refine w_aload_n (q := 31) rfl rfl rfl ?_
  refine w_gfr (q := 34) rfl rfl rfl rfl (j := 12) rfl ?_
  refine w_iconst (q := 35) rfl rfl ?_
  refine w_aload_n (q := 36) rfl rfl rfl ?_
  refine w_gfr (q := 39) rfl rfl rfl rfl (j := 5) rfl ?_
  refine w_iconst (q := 40) rfl rfl ?_
  refine w_sipush (q := 43) rfl rfl rfl ?_
  refine w_copy (q := 46) rfl rfl (n1 := 404) (n0 := 404) rfl rfl rfl rfl rfl (by decide) ?_
  refine w_aload_n (q := 47) rfl rfl rfl ?_
  refine w_gfr (q := 50) rfl rfl rfl rfl (j := 13) rfl ?_
  refine w_iconst (q := 51) rfl rfl ?_
  refine w_aload_n (q := 52) rfl rfl rfl ?_
  refine w_gfr (q := 55) rfl rfl rfl rfl (j := 6) rfl ?_
  refine w_iconst (q := 56) rfl rfl ?_
  refine w_bipush (q := 58) rfl rfl rfl ?_
  refine w_copy (q := 61) rfl rfl (n1 := 10) (n0 := 10) rfl rfl rfl rfl rfl (by decide) ?_
  refine w_aload_n (q := 62) rfl rfl rfl ?_
  refine w_gfr (q := 65) rfl rfl rfl rfl (j := 14) rfl ?_
  refine w_iconst (q := 66) rfl rfl ?_
  refine w_aload_n (q := 67) rfl rfl rfl ?_
  refine w_gfr (q := 70) rfl rfl rfl rfl (j := 7) rfl ?_
  refine w_iconst (q := 71) rfl rfl ?_
  refine w_bipush (q := 73) rfl rfl rfl ?_
  refine w_copy (q := 76) rfl rfl (n1 := 10) (n0 := 10) rfl rfl rfl rfl rfl (by decide) ?_
  refine w_aload_n (q := 77) rfl rfl rfl ?_
  refine w_aload_n (q := 78) rfl rfl rfl ?_
  refine w_gfi (q := 81) (k' := 5) (v := I 9 5) rfl rfl rfl rfl rfl rfl rfl ?_
  refine w_pfi (q := 84) (k' := 5) rfl rfl rfl rfl ?_
  refine w_aload_n (q := 85) rfl rfl rfl ?_
  refine w_aload_n (q := 86) rfl rfl rfl ?_
  refine w_gfi (q := 89) (k' := 6) (v := I 9 6) rfl rfl rfl rfl rfl rfl rfl ?_
  refine w_pfi (q := 92) (k' := 6) rfl rfl rfl rfl ?_
  refine w_aload_n (q := 93) rfl rfl rfl ?_
  refine w_aload_n (q := 94) rfl rfl rfl ?_
  refine w_gfi (q := 97) (k' := 7) (v := I 9 7) rfl rfl rfl rfl rfl rfl rfl ?_
  refine w_pfi (q := 100) (k' := 7) rfl rfl rfl rfl ?_
  refine w_aload_n (q := 101) rfl rfl rfl ?_
  refine w_aload_n (q := 102) rfl rfl rfl ?_
  refine w_gfi (q := 105) (k' := 8) (v := I 9 8) rfl rfl rfl rfl rfl rfl rfl ?_
  refine w_pfi (q := 108) (k' := 8) rfl rfl rfl rfl ?_
  refine w_aload_n (q := 109) rfl rfl rfl ?_
  refine w_aload_n (q := 110) rfl rfl rfl ?_
  refine w_gfi (q := 113) (k' := 9) (v := I 9 9) rfl rfl rfl rfl rfl rfl rfl ?_
  refine w_pfi (q := 116) (k' := 9) rfl rfl rfl rfl ?_
  refine w_aload_n (q := 117) rfl rfl rfl ?_
  refine w_aload_n (q := 118) rfl rfl rfl ?_
  refine w_gfi (q := 121) (k' := 10) (v := I 9 10) rfl rfl rfl rfl rfl rfl rfl ?_
  obtain ⟨h1, k⟩ := k
  refine w_pfz (q := 124) (k' := 10) rfl rfl rfl rfl h1 ?_
  exact w_vret rfl k
theorem e104 {xs : Nat → Int32} {xl : Nat} {I J : w_I} {b : Bool} {Q : Option Value → w_I → w_I → Bool → Prop} (t : w_T xs xl 104 0 [some (.ref 2), none, none] [] [] I J b Q) : w_C xs xl 104 [.ref 2] I J b Q := w_en rfl t
theorem b104_0 {xs : Nat → Int32} {xl : Nat} {I J : w_I} {b : Bool} {Q : Option Value → w_I → w_I → Bool → Prop} (k : w_T xs xl 104 4 [some (.ref 2), some (w_i 0), some (w_i 0)] [] [] I J b Q) : w_T xs xl 104 0 [some (.ref 2), none, none] [] [] I J b Q := by
  refine w_iconst (q := 1) rfl rfl ?_
  refine w_istore_n (q := 2) (L' := [some (.ref 2), some (w_i 0), none]) (M' := []) rfl rfl rfl rfl rfl ?_
  refine w_iconst (q := 3) rfl rfl ?_
  refine w_istore_n (q := 4) (L' := [some (.ref 2), some (w_i 0), some (w_i 0)]) (M' := []) rfl rfl rfl rfl rfl ?_
  exact k
theorem b104_4 {xs : Nat → Int32} {xl : Nat} {I J : w_I} {b : Bool} {Q : Option Value → w_I → w_I → Bool → Prop} {l1 l2 : Int} (k : ((-2147483648 ≤ l2 ∧ l2 < 2147483648) ∧ (-2147483648 ≤ I 2 5 ∧ I 2 5 < 2147483648) ∧ ((I 2 5 ≤ l2 → ((-2147483648 ≤ l1 ∧ l1 < 2147483648) ∧ ((¬ l1 = 3 → Q (some (w_i 0)) I J b) ∧ (l1 = 3 → Q (some (w_i 1)) I J b)))) ∧ (¬ I 2 5 ≤ l2 → ((0 ≤ l2 ∧ l2 < 24) ∧ w_T xs xl 104 4 [some (.ref 2), some (w_i (w_or l1 (I 3 l2))), some (w_i (l2 + 1))] [] [] I J b Q))))) : w_T xs xl 104 4 [some (.ref 2), some (w_i l1), some (w_i l2)] [] [] I J b Q := by
  refine w_iload_n (q := 5) rfl rfl rfl ?_
  refine w_aload_n (q := 6) rfl rfl rfl ?_
  refine w_gfi (q := 9) (k' := 5) (v := I 2 5) rfl rfl rfl rfl rfl rfl rfl ?_
  obtain ⟨h1, h2, k⟩ := k
  refine w_cge (t := 27) (q := 12) rfl rfl rfl h1 h2 (fun c3 => ?_) (fun c3 => ?_)
  · replace k := k.1 c3
    refine w_iload_n (q := 28) rfl rfl rfl ?_
    refine w_iconst (q := 29) rfl rfl ?_
    obtain ⟨h4, k⟩ := k
    refine w_cne (t := 36) (q := 32) rfl rfl rfl h4 (by decide) (fun c5 => ?_) (fun c5 => ?_)
    · replace k := k.1 c5
      refine w_iconst (q := 37) rfl rfl ?_
      refine w_iret rfl rfl k
    · replace k := k.2 c5
      refine w_iconst (q := 33) rfl rfl ?_
      refine w_goto (t := 37) rfl rfl ?_
      refine w_iret rfl rfl k
  · replace k := k.2 c3
    refine w_iload_n (q := 13) rfl rfl rfl ?_
    refine w_aload_n (q := 14) rfl rfl rfl ?_
    refine w_gfr (q := 17) rfl rfl rfl rfl (j := 3) rfl ?_
    refine w_iload_n (q := 18) rfl rfl rfl ?_
    obtain ⟨h6, k⟩ := k
    refine w_iald (q := 19) (n := 24) (v := I 3 l2) rfl rfl rfl rfl rfl rfl h6 ?_
    refine w_ior (q := 20) rfl rfl ?_
    refine w_istore_n (q := 21) (L' := [some (.ref 2), some (w_i (w_or l1 (I 3 l2))), some (w_i l2)]) (M' := []) rfl rfl rfl rfl rfl ?_
    refine w_iinc (q := 24) (L' := [some (.ref 2), some (w_i (w_or l1 (I 3 l2))), some (w_i (l2 + 1))]) (M' := []) rfl rfl rfl rfl rfl rfl ?_
    refine w_goto (t := 4) rfl rfl ?_
    exact k
theorem e105 {xs : Nat → Int32} {xl : Nat} {I J : w_I} {b : Bool} {Q : Option Value → w_I → w_I → Bool → Prop} {a1 a2 : Int} (t : w_T xs xl 105 0 [some (.ref 2), some (w_i a1), some (w_i a2)] [] [] I J b Q) : w_C xs xl 105 [.ref 2, w_i a1, w_i a2] I J b Q := w_en rfl t
theorem b105_0 {xs : Nat → Int32} {xl : Nat} {I J : w_I} {b : Bool} {Q : Option Value → w_I → w_I → Bool → Prop} {a1 a2 : Int} (k : ((0 ≤ a1 ∧ a1 < 24) ∧ ((0 ≤ a2 ∧ a2 < 24) ∧ ((-2147483648 ≤ w_or (I 3 a1) (I 3 a2) ∧ w_or (I 3 a1) (I 3 a2) < 2147483648) ∧ ((w_or (I 3 a1) (I 3 a2) = 3 → Q (some (w_i 0)) I J b) ∧ (¬ w_or (I 3 a1) (I 3 a2) = 3 → Q (some (w_i 1)) I J b)))))) : w_T xs xl 105 0 [some (.ref 2), some (w_i a1), some (w_i a2)] [] [] I J b Q := by
  refine w_aload_n (q := 1) rfl rfl rfl ?_
  refine w_gfr (q := 4) rfl rfl rfl rfl (j := 3) rfl ?_
  refine w_iload_n (q := 5) rfl rfl rfl ?_
  obtain ⟨h1, k⟩ := k
  refine w_iald (q := 6) (n := 24) (v := I 3 a1) rfl rfl rfl rfl rfl rfl h1 ?_
  refine w_aload_n (q := 7) rfl rfl rfl ?_
  refine w_gfr (q := 10) rfl rfl rfl rfl (j := 3) rfl ?_
  refine w_iload_n (q := 11) rfl rfl rfl ?_
  obtain ⟨h2, k⟩ := k
  refine w_iald (q := 12) (n := 24) (v := I 3 a2) rfl rfl rfl rfl rfl rfl h2 ?_
  refine w_ior (q := 13) rfl rfl ?_
  refine w_iconst (q := 14) rfl rfl ?_
  obtain ⟨h3, k⟩ := k
  refine w_ceq (t := 21) (q := 17) rfl rfl rfl h3 (by decide) (fun c4 => ?_) (fun c4 => ?_)
  · replace k := k.1 c4
    refine w_iconst (q := 22) rfl rfl ?_
    refine w_iret rfl rfl k
  · replace k := k.2 c4
    refine w_iconst (q := 18) rfl rfl ?_
    refine w_goto (t := 22) rfl rfl ?_
    refine w_iret rfl rfl k
theorem e107t {xs : Nat → Int32} {xl : Nat} {I J : w_I} {Q : Option Value → w_I → w_I → Bool → Prop} (t : w_T xs xl 107 0 [some (.ref 93), none, none] [] [] I J true Q) : w_C xs xl 107 [.ref 93] I J true Q := w_en rfl t
theorem b107_0t {xs : Nat → Int32} {xl : Nat} {I J : w_I} {Q : Option Value → w_I → w_I → Bool → Prop} (k : w_C xs xl 21 [.ref 78] I J true (fun v Ic Jc bc => w_T xs xl 107 7 [some (.ref 93), none, none] [] (w_pv v []) Ic Jc bc Q)) : w_T xs xl 107 0 [some (.ref 93), none, none] [] [] I J true Q := by
  refine w_aload_n (q := 1) rfl rfl rfl ?_
  refine w_gfr (q := 4) rfl rfl rfl rfl (j := 78) rfl ?_
  refine w_callv (q := 7) rfl rfl rfl rfl rfl rfl ?_
  exact k
theorem b107_7t {xs : Nat → Int32} {xl : Nat} {I J : w_I} {Q : Option Value → w_I → w_I → Bool → Prop} {u1 u2 : Option Value} (k : w_C xs xl 108 [.ref 93] I J true (fun v Ic Jc bc => w_T xs xl 107 11 [some (.ref 93), u1, u2] [] (w_pv v []) Ic Jc bc Q)) : w_T xs xl 107 7 [some (.ref 93), u1, u2] [] [] I J true Q := by
  refine w_aload_n (q := 8) rfl rfl rfl ?_
  refine w_callv (q := 11) rfl rfl rfl rfl rfl rfl ?_
  exact k
theorem b107_11t {xs : Nat → Int32} {xl : Nat} {I J : w_I} {Q : Option Value → w_I → w_I → Bool → Prop} {u1 u2 : Option Value} {s0 : Int} (k : ((-2147483648 ≤ s0 ∧ s0 < 2147483648) ∧ ((¬ s0 = 0 → w_C xs xl 295 [.ref 99, w_i 1073741824] I J true (fun v Ic Jc bc => w_T xs xl 107 25 [some (.ref 93), u1, u2] [] (w_pv v []) Ic Jc bc Q)) ∧ (s0 = 0 → Q (some (w_i 0)) I J true)))) : w_T xs xl 107 11 [some (.ref 93), u1, u2] [] [w_i s0] I J true Q := by
  obtain ⟨h1, k⟩ := k
  refine w_zne (t := 16) (q := 14) rfl rfl rfl h1 (fun c2 => ?_) (fun c2 => ?_)
  · replace k := k.1 c2
    refine w_aload_n (q := 17) rfl rfl rfl ?_
    refine w_gfr (q := 20) rfl rfl rfl rfl (j := 99) rfl ?_
    refine w_ldc (q := 22) (n := 1073741824) rfl rfl rfl ?_
    refine w_call (q := 25) rfl rfl rfl rfl rfl ?_
    exact k
  · replace k := k.2 c2
    refine w_iconst (q := 15) rfl rfl ?_
    refine w_iret rfl rfl k
theorem b107_25t {xs : Nat → Int32} {xl : Nat} {I J : w_I} {Q : Option Value → w_I → w_I → Bool → Prop} {u1 u2 : Option Value} (k : w_T xs xl 107 34 [some (.ref 93), some (w_i 0), u2] [] [] (w_U I 99 0 0) J true Q) : w_T xs xl 107 25 [some (.ref 93), u1, u2] [] [] I J true Q := by
  refine w_aload_n (q := 26) rfl rfl rfl ?_
  refine w_gfr (q := 29) rfl rfl rfl rfl (j := 99) rfl ?_
  refine w_iconst (q := 30) rfl rfl ?_
  refine w_iconst (q := 31) rfl rfl ?_
  refine w_iast (q := 32) (n := 169) rfl rfl rfl rfl rfl (by decide) ?_
  refine w_iconst (q := 33) rfl rfl ?_
  refine w_istore_n (q := 34) (L' := [some (.ref 93), some (w_i 0), u2]) (M' := []) rfl rfl rfl rfl rfl ?_
  exact k
theorem b107_34t {xs : Nat → Int32} {xl : Nat} {I J : w_I} {Q : Option Value → w_I → w_I → Bool → Prop} {l1 : Int} {u2 : Option Value} (k : ((-2147483648 ≤ l1 ∧ l1 < 2147483648) ∧ (-2147483648 ≤ I 93 5 ∧ I 93 5 < 2147483648) ∧ ((I 93 5 ≤ l1 → w_T xs xl 107 74 [some (.ref 93), some (w_i 1073741824), some (w_i 0)] [] [] I J true Q) ∧ (¬ I 93 5 ≤ l1 → ((0 ≤ l1 ∧ l1 < 12) ∧ ((0 ≤ I 94 l1 ∧ I 94 l1 < 30) ∧ w_C xs xl 110 [.ref 93, w_i (I 28 (I 94 l1))] I J true (fun v Ic Jc bc => w_T xs xl 107 63 [some (.ref 93), some (w_i l1), u2] [] (w_pv v []) Ic Jc bc Q))))))) : w_T xs xl 107 34 [some (.ref 93), some (w_i l1), u2] [] [] I J true Q := by
  refine w_iload_n (q := 35) rfl rfl rfl ?_
  refine w_aload_n (q := 36) rfl rfl rfl ?_
  refine w_gfi (q := 39) (k' := 5) (v := I 93 5) rfl rfl rfl rfl rfl rfl rfl ?_
  obtain ⟨h1, h2, k⟩ := k
  refine w_cge (t := 69) (q := 42) rfl rfl rfl h1 h2 (fun c3 => ?_) (fun c3 => ?_)
  · replace k := k.1 c3
    refine w_ldc (q := 71) (n := 1073741824) rfl rfl rfl ?_
    refine w_istore_n (q := 72) (L' := [some (.ref 93), some (w_i 1073741824), u2]) (M' := []) rfl rfl rfl rfl rfl ?_
    refine w_iconst (q := 73) rfl rfl ?_
    refine w_istore_n (q := 74) (L' := [some (.ref 93), some (w_i 1073741824), some (w_i 0)]) (M' := []) rfl rfl rfl rfl rfl ?_
    exact k
  · replace k := k.2 c3
    refine w_aload_n (q := 43) rfl rfl rfl ?_
    refine w_aload_n (q := 44) rfl rfl rfl ?_
    refine w_gfr (q := 47) rfl rfl rfl rfl (j := 78) rfl ?_
    refine w_gfr (q := 50) rfl rfl rfl rfl (j := 20) rfl ?_
    refine w_gfr (q := 53) rfl rfl rfl rfl (j := 28) rfl ?_
    refine w_aload_n (q := 54) rfl rfl rfl ?_
    refine w_gfr (q := 57) rfl rfl rfl rfl (j := 94) rfl ?_
    refine w_iload_n (q := 58) rfl rfl rfl ?_
    obtain ⟨h4, k⟩ := k
    refine w_iald (q := 59) (n := 12) (v := I 94 l1) rfl rfl rfl rfl rfl rfl h4 ?_
    obtain ⟨h5, k⟩ := k
    refine w_iald (q := 60) (n := 30) (v := I 28 (I 94 l1)) rfl rfl rfl rfl rfl rfl h5 ?_
    refine w_callv (q := 63) rfl rfl rfl rfl rfl rfl ?_
    exact k
theorem b107_74t {xs : Nat → Int32} {xl : Nat} {I J : w_I} {Q : Option Value → w_I → w_I → Bool → Prop} {l1 l2 : Int} (k : ((-2147483648 ≤ l2 ∧ l2 < 2147483648) ∧ (-2147483648 ≤ (I 97 1 + 1) * (I 97 2 + 1) ∧ (I 97 1 + 1) * (I 97 2 + 1) < 2147483648) ∧ (((I 97 1 + 1) * (I 97 2 + 1) ≤ l2 → (((0 : Int) ≤ l1 ∧ l1 < 2147483648 ∧ (0 : Int) < 65536 ∧ 65536 < (2147483648 : Int)) ∧ (((0 : Int) ≤ l1 ∧ l1 < 2147483648 ∧ (0 : Int) < 4096 ∧ 4096 < (2147483648 : Int)) ∧ ((-2147483648 ≤ l1 ∧ l1 < 2147483648) ∧ ((1073741824 ≤ l1 → Q (some (w_i 0)) (w_U (w_U I 93 8 (l1 / 65536)) 93 9 (l1 % 4096)) J true) ∧ (¬ 1073741824 ≤ l1 → Q (some (w_i 1)) (w_U (w_U I 93 8 (l1 / 65536)) 93 9 (l1 % 4096)) J true)))))) ∧ (¬ (I 97 1 + 1) * (I 97 2 + 1) ≤ l2 → ((0 ≤ l2 ∧ l2 < 169) ∧ ((-2147483648 ≤ l1 ∧ l1 < 2147483648) ∧ (-2147483648 ≤ I 99 l2 ∧ I 99 l2 < 2147483648) ∧ w_T xs xl 107 74 [some (.ref 93), some (w_i (min l1 (I 99 l2))), some (w_i (l2 + 1))] [] [] I J true Q)))))) : w_T xs xl 107 74 [some (.ref 93), some (w_i l1), some (w_i l2)] [] [] I J true Q := by
  refine w_iload_n (q := 75) rfl rfl rfl ?_
  refine w_aload_n (q := 76) rfl rfl rfl ?_
  refine w_gfr (q := 79) rfl rfl rfl rfl (j := 97) rfl ?_
  refine w_iconst (q := 80) rfl rfl ?_
  refine w_iald (q := 81) (n := 3) (v := I 97 1) rfl rfl rfl rfl rfl rfl (by decide) ?_
  refine w_iconst (q := 82) rfl rfl ?_
  refine w_iadd (q := 83) rfl rfl ?_
  refine w_aload_n (q := 84) rfl rfl rfl ?_
  refine w_gfr (q := 87) rfl rfl rfl rfl (j := 97) rfl ?_
  refine w_iconst (q := 88) rfl rfl ?_
  refine w_iald (q := 89) (n := 3) (v := I 97 2) rfl rfl rfl rfl rfl rfl (by decide) ?_
  refine w_iconst (q := 90) rfl rfl ?_
  refine w_iadd (q := 91) rfl rfl ?_
  refine w_imul (q := 92) rfl rfl ?_
  obtain ⟨h1, h2, k⟩ := k
  refine w_cge (t := 112) (q := 95) rfl rfl rfl h1 h2 (fun c3 => ?_) (fun c3 => ?_)
  · replace k := k.1 c3
    refine w_aload_n (q := 113) rfl rfl rfl ?_
    refine w_iload_n (q := 114) rfl rfl rfl ?_
    refine w_ldc (q := 116) (n := 65536) rfl rfl rfl ?_
    obtain ⟨h4, k⟩ := k
    refine w_idiv (q := 117) rfl rfl h4 ?_
    refine w_pfi (q := 120) (k' := 8) rfl rfl rfl rfl ?_
    refine w_aload_n (q := 121) rfl rfl rfl ?_
    refine w_iload_n (q := 122) rfl rfl rfl ?_
    refine w_sipush (q := 125) rfl rfl rfl ?_
    obtain ⟨h5, k⟩ := k
    refine w_irem (q := 126) rfl rfl h5 ?_
    refine w_pfi (q := 129) (k' := 9) rfl rfl rfl rfl ?_
    refine w_iload_n (q := 130) rfl rfl rfl ?_
    refine w_ldc (q := 132) (n := 1073741824) rfl rfl rfl ?_
    obtain ⟨h6, k⟩ := k
    refine w_cge (t := 139) (q := 135) rfl rfl rfl h6 (by decide) (fun c7 => ?_) (fun c7 => ?_)
    · replace k := k.1 c7
      refine w_iconst (q := 140) rfl rfl ?_
      refine w_iret rfl rfl k
    · replace k := k.2 c7
      refine w_iconst (q := 136) rfl rfl ?_
      refine w_goto (t := 140) rfl rfl ?_
      refine w_iret rfl rfl k
  · replace k := k.2 c3
    refine w_iload_n (q := 96) rfl rfl rfl ?_
    refine w_aload_n (q := 97) rfl rfl rfl ?_
    refine w_gfr (q := 100) rfl rfl rfl rfl (j := 99) rfl ?_
    refine w_iload_n (q := 101) rfl rfl rfl ?_
    obtain ⟨h8, k⟩ := k
    refine w_iald (q := 102) (n := 169) (v := I 99 l2) rfl rfl rfl rfl rfl rfl h8 ?_
    obtain ⟨h9, h10, k⟩ := k
    refine w_min (q := 105) rfl rfl rfl h9 h10 ?_
    refine w_istore_n (q := 106) (L' := [some (.ref 93), some (w_i (min l1 (I 99 l2))), some (w_i l2)]) (M' := []) rfl rfl rfl rfl rfl ?_
    refine w_iinc (q := 109) (L' := [some (.ref 93), some (w_i (min l1 (I 99 l2))), some (w_i (l2 + 1))]) (M' := []) rfl rfl rfl rfl rfl rfl ?_
    refine w_goto (t := 74) rfl rfl ?_
    exact k
theorem b107_63t {xs : Nat → Int32} {xl : Nat} {I J : w_I} {Q : Option Value → w_I → w_I → Bool → Prop} {l1 : Int} {u2 : Option Value} (k : w_T xs xl 107 34 [some (.ref 93), some (w_i (l1 + 1)), u2] [] [] I J true Q) : w_T xs xl 107 63 [some (.ref 93), some (w_i l1), u2] [] [] I J true Q := by
  refine w_iinc (q := 66) (L' := [some (.ref 93), some (w_i (l1 + 1)), u2]) (M' := []) rfl rfl rfl rfl rfl rfl ?_
  refine w_goto (t := 34) rfl rfl ?_
  exact k
theorem e107f {xs : Nat → Int32} {xl : Nat} {I J : w_I} {Q : Option Value → w_I → w_I → Bool → Prop} (t : w_T xs xl 107 0 [some (.ref 93), none, none] [] [] I J false Q) : w_C xs xl 107 [.ref 93] I J false Q := w_en rfl t
theorem b107_0f {xs : Nat → Int32} {xl : Nat} {I J : w_I} {Q : Option Value → w_I → w_I → Bool → Prop} (k : w_C xs xl 21 [.ref 78] I J false (fun v Ic Jc bc => w_T xs xl 107 7 [some (.ref 93), none, none] [] (w_pv v []) Ic Jc bc Q)) : w_T xs xl 107 0 [some (.ref 93), none, none] [] [] I J false Q := by
  refine w_aload_n (q := 1) rfl rfl rfl ?_
  refine w_gfr (q := 4) rfl rfl rfl rfl (j := 78) rfl ?_
  refine w_callv (q := 7) rfl rfl rfl rfl rfl rfl ?_
  exact k
theorem b107_7f {xs : Nat → Int32} {xl : Nat} {I J : w_I} {Q : Option Value → w_I → w_I → Bool → Prop} {u1 u2 : Option Value} (k : w_C xs xl 108 [.ref 93] I J false (fun v Ic Jc bc => w_T xs xl 107 11 [some (.ref 93), u1, u2] [] (w_pv v []) Ic Jc bc Q)) : w_T xs xl 107 7 [some (.ref 93), u1, u2] [] [] I J false Q := by
  refine w_aload_n (q := 8) rfl rfl rfl ?_
  refine w_callv (q := 11) rfl rfl rfl rfl rfl rfl ?_
  exact k
theorem b107_11f {xs : Nat → Int32} {xl : Nat} {I J : w_I} {Q : Option Value → w_I → w_I → Bool → Prop} {u1 u2 : Option Value} {s0 : Int} (k : ((-2147483648 ≤ s0 ∧ s0 < 2147483648) ∧ ((¬ s0 = 0 → w_C xs xl 295 [.ref 98, w_i 1073741824] I J false (fun v Ic Jc bc => w_T xs xl 107 25 [some (.ref 93), u1, u2] [] (w_pv v []) Ic Jc bc Q)) ∧ (s0 = 0 → Q (some (w_i 0)) I J false)))) : w_T xs xl 107 11 [some (.ref 93), u1, u2] [] [w_i s0] I J false Q := by
  obtain ⟨h1, k⟩ := k
  refine w_zne (t := 16) (q := 14) rfl rfl rfl h1 (fun c2 => ?_) (fun c2 => ?_)
  · replace k := k.1 c2
    refine w_aload_n (q := 17) rfl rfl rfl ?_
    refine w_gfr (q := 20) rfl rfl rfl rfl (j := 98) rfl ?_
    refine w_ldc (q := 22) (n := 1073741824) rfl rfl rfl ?_
    refine w_call (q := 25) rfl rfl rfl rfl rfl ?_
    exact k
  · replace k := k.2 c2
    refine w_iconst (q := 15) rfl rfl ?_
    refine w_iret rfl rfl k
theorem b107_25f {xs : Nat → Int32} {xl : Nat} {I J : w_I} {Q : Option Value → w_I → w_I → Bool → Prop} {u1 u2 : Option Value} (k : w_T xs xl 107 34 [some (.ref 93), some (w_i 0), u2] [] [] (w_U I 98 0 0) J false Q) : w_T xs xl 107 25 [some (.ref 93), u1, u2] [] [] I J false Q := by
  refine w_aload_n (q := 26) rfl rfl rfl ?_
  refine w_gfr (q := 29) rfl rfl rfl rfl (j := 98) rfl ?_
  refine w_iconst (q := 30) rfl rfl ?_
  refine w_iconst (q := 31) rfl rfl ?_
  refine w_iast (q := 32) (n := 169) rfl rfl rfl rfl rfl (by decide) ?_
  refine w_iconst (q := 33) rfl rfl ?_
  refine w_istore_n (q := 34) (L' := [some (.ref 93), some (w_i 0), u2]) (M' := []) rfl rfl rfl rfl rfl ?_
  exact k
theorem b107_34f {xs : Nat → Int32} {xl : Nat} {I J : w_I} {Q : Option Value → w_I → w_I → Bool → Prop} {l1 : Int} {u2 : Option Value} (k : ((-2147483648 ≤ l1 ∧ l1 < 2147483648) ∧ (-2147483648 ≤ I 93 5 ∧ I 93 5 < 2147483648) ∧ ((I 93 5 ≤ l1 → w_T xs xl 107 74 [some (.ref 93), some (w_i 1073741824), some (w_i 0)] [] [] I J false Q) ∧ (¬ I 93 5 ≤ l1 → ((0 ≤ l1 ∧ l1 < 12) ∧ ((0 ≤ I 94 l1 ∧ I 94 l1 < 30) ∧ w_C xs xl 110 [.ref 93, w_i (I 28 (I 94 l1))] I J false (fun v Ic Jc bc => w_T xs xl 107 63 [some (.ref 93), some (w_i l1), u2] [] (w_pv v []) Ic Jc bc Q))))))) : w_T xs xl 107 34 [some (.ref 93), some (w_i l1), u2] [] [] I J false Q := by
  refine w_iload_n (q := 35) rfl rfl rfl ?_
  refine w_aload_n (q := 36) rfl rfl rfl ?_
  refine w_gfi (q := 39) (k' := 5) (v := I 93 5) rfl rfl rfl rfl rfl rfl rfl ?_
  obtain ⟨h1, h2, k⟩ := k
  refine w_cge (t := 69) (q := 42) rfl rfl rfl h1 h2 (fun c3 => ?_) (fun c3 => ?_)
  · replace k := k.1 c3
    refine w_ldc (q := 71) (n := 1073741824) rfl rfl rfl ?_
    refine w_istore_n (q := 72) (L' := [some (.ref 93), some (w_i 1073741824), u2]) (M' := []) rfl rfl rfl rfl rfl ?_
    refine w_iconst (q := 73) rfl rfl ?_
    refine w_istore_n (q := 74) (L' := [some (.ref 93), some (w_i 1073741824), some (w_i 0)]) (M' := []) rfl rfl rfl rfl rfl ?_
    exact k
  · replace k := k.2 c3
    refine w_aload_n (q := 43) rfl rfl rfl ?_
    refine w_aload_n (q := 44) rfl rfl rfl ?_
    refine w_gfr (q := 47) rfl rfl rfl rfl (j := 78) rfl ?_
    refine w_gfr (q := 50) rfl rfl rfl rfl (j := 20) rfl ?_
    refine w_gfr (q := 53) rfl rfl rfl rfl (j := 28) rfl ?_
    refine w_aload_n (q := 54) rfl rfl rfl ?_
    refine w_gfr (q := 57) rfl rfl rfl rfl (j := 94) rfl ?_
    refine w_iload_n (q := 58) rfl rfl rfl ?_
    obtain ⟨h4, k⟩ := k
    refine w_iald (q := 59) (n := 12) (v := I 94 l1) rfl rfl rfl rfl rfl rfl h4 ?_
    obtain ⟨h5, k⟩ := k
    refine w_iald (q := 60) (n := 30) (v := I 28 (I 94 l1)) rfl rfl rfl rfl rfl rfl h5 ?_
    refine w_callv (q := 63) rfl rfl rfl rfl rfl rfl ?_
    exact k
theorem b107_74f {xs : Nat → Int32} {xl : Nat} {I J : w_I} {Q : Option Value → w_I → w_I → Bool → Prop} {l1 l2 : Int} (k : ((-2147483648 ≤ l2 ∧ l2 < 2147483648) ∧ (-2147483648 ≤ (I 97 1 + 1) * (I 97 2 + 1) ∧ (I 97 1 + 1) * (I 97 2 + 1) < 2147483648) ∧ (((I 97 1 + 1) * (I 97 2 + 1) ≤ l2 → (((0 : Int) ≤ l1 ∧ l1 < 2147483648 ∧ (0 : Int) < 65536 ∧ 65536 < (2147483648 : Int)) ∧ (((0 : Int) ≤ l1 ∧ l1 < 2147483648 ∧ (0 : Int) < 4096 ∧ 4096 < (2147483648 : Int)) ∧ ((-2147483648 ≤ l1 ∧ l1 < 2147483648) ∧ ((1073741824 ≤ l1 → Q (some (w_i 0)) (w_U (w_U I 93 8 (l1 / 65536)) 93 9 (l1 % 4096)) J false) ∧ (¬ 1073741824 ≤ l1 → Q (some (w_i 1)) (w_U (w_U I 93 8 (l1 / 65536)) 93 9 (l1 % 4096)) J false)))))) ∧ (¬ (I 97 1 + 1) * (I 97 2 + 1) ≤ l2 → ((0 ≤ l2 ∧ l2 < 169) ∧ ((-2147483648 ≤ l1 ∧ l1 < 2147483648) ∧ (-2147483648 ≤ I 98 l2 ∧ I 98 l2 < 2147483648) ∧ w_T xs xl 107 74 [some (.ref 93), some (w_i (min l1 (I 98 l2))), some (w_i (l2 + 1))] [] [] I J false Q)))))) : w_T xs xl 107 74 [some (.ref 93), some (w_i l1), some (w_i l2)] [] [] I J false Q := by
  refine w_iload_n (q := 75) rfl rfl rfl ?_
  refine w_aload_n (q := 76) rfl rfl rfl ?_
  refine w_gfr (q := 79) rfl rfl rfl rfl (j := 97) rfl ?_
  refine w_iconst (q := 80) rfl rfl ?_
  refine w_iald (q := 81) (n := 3) (v := I 97 1) rfl rfl rfl rfl rfl rfl (by decide) ?_
  refine w_iconst (q := 82) rfl rfl ?_
  refine w_iadd (q := 83) rfl rfl ?_
  refine w_aload_n (q := 84) rfl rfl rfl ?_
  refine w_gfr (q := 87) rfl rfl rfl rfl (j := 97) rfl ?_
  refine w_iconst (q := 88) rfl rfl ?_
  refine w_iald (q := 89) (n := 3) (v := I 97 2) rfl rfl rfl rfl rfl rfl (by decide) ?_
  refine w_iconst (q := 90) rfl rfl ?_
  refine w_iadd (q := 91) rfl rfl ?_
  refine w_imul (q := 92) rfl rfl ?_
  obtain ⟨h1, h2, k⟩ := k
  refine w_cge (t := 112) (q := 95) rfl rfl rfl h1 h2 (fun c3 => ?_) (fun c3 => ?_)
  · replace k := k.1 c3
    refine w_aload_n (q := 113) rfl rfl rfl ?_
    refine w_iload_n (q := 114) rfl rfl rfl ?_
    refine w_ldc (q := 116) (n := 65536) rfl rfl rfl ?_
    obtain ⟨h4, k⟩ := k
    refine w_idiv (q := 117) rfl rfl h4 ?_
    refine w_pfi (q := 120) (k' := 8) rfl rfl rfl rfl ?_
    refine w_aload_n (q := 121) rfl rfl rfl ?_
    refine w_iload_n (q := 122) rfl rfl rfl ?_
    refine w_sipush (q := 125) rfl rfl rfl ?_
    obtain ⟨h5, k⟩ := k
    refine w_irem (q := 126) rfl rfl h5 ?_
    refine w_pfi (q := 129) (k' := 9) rfl rfl rfl rfl ?_
    refine w_iload_n (q := 130) rfl rfl rfl ?_
    refine w_ldc (q := 132) (n := 1073741824) rfl rfl rfl ?_
    obtain ⟨h6, k⟩ := k
    refine w_cge (t := 139) (q := 135) rfl rfl rfl h6 (by decide) (fun c7 => ?_) (fun c7 => ?_)
    · replace k := k.1 c7
      refine w_iconst (q := 140) rfl rfl ?_
      refine w_iret rfl rfl k
    · replace k := k.2 c7
      refine w_iconst (q := 136) rfl rfl ?_
      refine w_goto (t := 140) rfl rfl ?_
      refine w_iret rfl rfl k
  · replace k := k.2 c3
    refine w_iload_n (q := 96) rfl rfl rfl ?_
    refine w_aload_n (q := 97) rfl rfl rfl ?_
    refine w_gfr (q := 100) rfl rfl rfl rfl (j := 98) rfl ?_
    refine w_iload_n (q := 101) rfl rfl rfl ?_
    obtain ⟨h8, k⟩ := k
    refine w_iald (q := 102) (n := 169) (v := I 98 l2) rfl rfl rfl rfl rfl rfl h8 ?_
    obtain ⟨h9, h10, k⟩ := k
    refine w_min (q := 105) rfl rfl rfl h9 h10 ?_
    refine w_istore_n (q := 106) (L' := [some (.ref 93), some (w_i (min l1 (I 98 l2))), some (w_i l2)]) (M' := []) rfl rfl rfl rfl rfl ?_
    refine w_iinc (q := 109) (L' := [some (.ref 93), some (w_i (min l1 (I 98 l2))), some (w_i (l2 + 1))]) (M' := []) rfl rfl rfl rfl rfl rfl ?_
    refine w_goto (t := 74) rfl rfl ?_
    exact k
theorem b107_63f {xs : Nat → Int32} {xl : Nat} {I J : w_I} {Q : Option Value → w_I → w_I → Bool → Prop} {l1 : Int} {u2 : Option Value} (k : w_T xs xl 107 34 [some (.ref 93), some (w_i (l1 + 1)), u2] [] [] I J false Q) : w_T xs xl 107 63 [some (.ref 93), some (w_i l1), u2] [] [] I J false Q := by
  refine w_iinc (q := 66) (L' := [some (.ref 93), some (w_i (l1 + 1)), u2]) (M' := []) rfl rfl rfl rfl rfl rfl ?_
  refine w_goto (t := 34) rfl rfl ?_
  exact k
theorem e108 {xs : Nat → Int32} {xl : Nat} {I J : w_I} {b : Bool} {Q : Option Value → w_I → w_I → Bool → Prop} (t : w_T xs xl 108 0 [some (.ref 93), none, none] [] [] I J b Q) : w_C xs xl 108 [.ref 93] I J b Q := w_en rfl t
theorem b108_0 {xs : Nat → Int32} {xl : Nat} {I J : w_I} {b : Bool} {Q : Option Value → w_I → w_I → Bool → Prop} (k : w_C xs xl 295 [.ref 97, w_i 0] (w_U I 93 5 0) J b (fun v Ic Jc bc => w_T xs xl 108 13 [some (.ref 93), none, none] [] (w_pv v []) Ic Jc bc Q)) : w_T xs xl 108 0 [some (.ref 93), none, none] [] [] I J b Q := by
  refine w_aload_n (q := 1) rfl rfl rfl ?_
  refine w_iconst (q := 2) rfl rfl ?_
  refine w_pfi (q := 5) (k' := 5) rfl rfl rfl rfl ?_
  refine w_aload_n (q := 6) rfl rfl rfl ?_
  refine w_gfr (q := 9) rfl rfl rfl rfl (j := 97) rfl ?_
  refine w_iconst (q := 10) rfl rfl ?_
  refine w_call (q := 13) rfl rfl rfl rfl rfl ?_
  exact k
theorem b108_13 {xs : Nat → Int32} {xl : Nat} {I J : w_I} {b : Bool} {Q : Option Value → w_I → w_I → Bool → Prop} {u1 u2 : Option Value} (k : w_T xs xl 108 15 [some (.ref 93), some (w_i 0), u2] [] [] I J b Q) : w_T xs xl 108 13 [some (.ref 93), u1, u2] [] [] I J b Q := by
  refine w_iconst (q := 14) rfl rfl ?_
  refine w_istore_n (q := 15) (L' := [some (.ref 93), some (w_i 0), u2]) (M' := []) rfl rfl rfl rfl rfl ?_
  exact k
theorem b108_15 {xs : Nat → Int32} {xl : Nat} {I J : w_I} {b : Bool} {Q : Option Value → w_I → w_I → Bool → Prop} {l1 : Int} {u2 : Option Value} (k : ((-2147483648 ≤ l1 ∧ l1 < 2147483648) ∧ (-2147483648 ≤ I 2 5 ∧ I 2 5 < 2147483648) ∧ ((I 2 5 ≤ l1 → Q (some (w_i 1)) I J b) ∧ (¬ I 2 5 ≤ l1 → ((0 ≤ l1 ∧ l1 < 24) ∧ ((0 ≤ I 3 l1 ∧ I 3 l1 < 3) ∧ ((-2147483648 ≤ I 3 l1 ∧ I 3 l1 < 2147483648) ∧ ((I 3 l1 = 0 → w_T xs xl 108 15 [some (.ref 93), some (w_i (l1 + 1)), some (w_i (I 3 l1))] [] [] (w_U (w_U (w_U I 95 l1 (I 97 (I 3 l1))) 97 (I 3 l1) (I 97 (I 3 l1) + 1)) 96 l1 (I 93 5)) J b Q) ∧ (¬ I 3 l1 = 0 → ((-2147483648 ≤ I 30 l1 ∧ I 30 l1 < 2147483648) ∧ ((I 30 l1 = (-1) → w_T xs xl 108 15 [some (.ref 93), some (w_i (l1 + 1)), some (w_i (I 3 l1))] [] [] (w_U (w_U (w_U I 95 l1 (I 97 (I 3 l1))) 97 (I 3 l1) (I 97 (I 3 l1) + 1)) 96 l1 (I 93 5)) J b Q) ∧ (¬ I 30 l1 = (-1) → ((-2147483648 ≤ I 93 5 ∧ I 93 5 < 2147483648) ∧ ((I 93 5 < 12 → w_C xs xl 109 [.ref 93, w_i (I 30 l1)] (w_U (w_U (w_U I 95 l1 (I 97 (I 3 l1))) 97 (I 3 l1) (I 97 (I 3 l1) + 1)) 96 l1 (I 93 5)) J b (fun v Ic Jc bc => w_T xs xl 108 121 [some (.ref 93), some (w_i l1), some (w_i (I 3 l1))] [] (w_pv v []) Ic Jc bc Q)) ∧ (¬ I 93 5 < 12 → Q (some (w_i 0)) (w_U (w_U (w_U I 95 l1 (I 97 (I 3 l1))) 97 (I 3 l1) (I 97 (I 3 l1) + 1)) 96 l1 (I 93 5)) J b))))))))))))))) : w_T xs xl 108 15 [some (.ref 93), some (w_i l1), u2] [] [] I J b Q := by
  refine w_iload_n (q := 16) rfl rfl rfl ?_
  refine w_aload_n (q := 17) rfl rfl rfl ?_
  refine w_gfr (q := 20) rfl rfl rfl rfl (j := 78) rfl ?_
  refine w_gfr (q := 23) rfl rfl rfl rfl (j := 2) rfl ?_
  refine w_gfi (q := 26) (k' := 5) (v := I 2 5) rfl rfl rfl rfl rfl rfl rfl ?_
  obtain ⟨h1, h2, k⟩ := k
  refine w_cge (t := 127) (q := 29) rfl rfl rfl h1 h2 (fun c3 => ?_) (fun c3 => ?_)
  · replace k := k.1 c3
    refine w_iconst (q := 128) rfl rfl ?_
    refine w_iret rfl rfl k
  · replace k := k.2 c3
    refine w_aload_n (q := 30) rfl rfl rfl ?_
    refine w_gfr (q := 33) rfl rfl rfl rfl (j := 78) rfl ?_
    refine w_gfr (q := 36) rfl rfl rfl rfl (j := 2) rfl ?_
    refine w_gfr (q := 39) rfl rfl rfl rfl (j := 3) rfl ?_
    refine w_iload_n (q := 40) rfl rfl rfl ?_
    obtain ⟨h4, k⟩ := k
    refine w_iald (q := 41) (n := 24) (v := I 3 l1) rfl rfl rfl rfl rfl rfl h4 ?_
    refine w_istore_n (q := 42) (L' := [some (.ref 93), some (w_i l1), some (w_i (I 3 l1))]) (M' := []) rfl rfl rfl rfl rfl ?_
    refine w_aload_n (q := 43) rfl rfl rfl ?_
    refine w_gfr (q := 46) rfl rfl rfl rfl (j := 95) rfl ?_
    refine w_iload_n (q := 47) rfl rfl rfl ?_
    refine w_aload_n (q := 48) rfl rfl rfl ?_
    refine w_gfr (q := 51) rfl rfl rfl rfl (j := 97) rfl ?_
    refine w_iload_n (q := 52) rfl rfl rfl ?_
    obtain ⟨h5, k⟩ := k
    refine w_iald (q := 53) (n := 3) (v := I 97 (I 3 l1)) rfl rfl rfl rfl rfl rfl h5 ?_
    refine w_iast (q := 54) (n := 24) rfl rfl rfl rfl rfl h4 ?_
    refine w_aload_n (q := 55) rfl rfl rfl ?_
    refine w_gfr (q := 58) rfl rfl rfl rfl (j := 97) rfl ?_
    refine w_iload_n (q := 59) rfl rfl rfl ?_
    refine w_dup2 (q := 60) rfl rfl rfl rfl ?_
    refine w_iald (q := 61) (n := 3) (v := I 97 (I 3 l1)) rfl rfl rfl rfl rfl rfl h5 ?_
    refine w_iconst (q := 62) rfl rfl ?_
    refine w_iadd (q := 63) rfl rfl ?_
    refine w_iast (q := 64) (n := 3) rfl rfl rfl rfl rfl h5 ?_
    refine w_aload_n (q := 65) rfl rfl rfl ?_
    refine w_gfr (q := 68) rfl rfl rfl rfl (j := 96) rfl ?_
    refine w_iload_n (q := 69) rfl rfl rfl ?_
    refine w_aload_n (q := 70) rfl rfl rfl ?_
    refine w_gfi (q := 73) (k' := 5) (v := I 93 5) rfl rfl rfl rfl rfl rfl rfl ?_
    refine w_iast (q := 74) (n := 24) rfl rfl rfl rfl rfl h4 ?_
    refine w_iload_n (q := 75) rfl rfl rfl ?_
    obtain ⟨h6, k⟩ := k
    refine w_zeq (t := 121) (q := 78) rfl rfl rfl h6 (fun c7 => ?_) (fun c7 => ?_)
    · replace k := k.1 c7
      refine w_iinc (q := 124) (L' := [some (.ref 93), some (w_i (l1 + 1)), some (w_i (I 3 l1))]) (M' := []) rfl rfl rfl rfl rfl rfl ?_
      refine w_goto (t := 15) rfl rfl ?_
      exact k
    · replace k := k.2 c7
      refine w_aload_n (q := 79) rfl rfl rfl ?_
      refine w_gfr (q := 82) rfl rfl rfl rfl (j := 78) rfl ?_
      refine w_gfr (q := 85) rfl rfl rfl rfl (j := 20) rfl ?_
      refine w_gfr (q := 88) rfl rfl rfl rfl (j := 30) rfl ?_
      refine w_iload_n (q := 89) rfl rfl rfl ?_
      refine w_iald (q := 90) (n := 24) (v := I 30 l1) rfl rfl rfl rfl rfl rfl h4 ?_
      refine w_iconst (q := 91) rfl rfl ?_
      obtain ⟨h8, k⟩ := k
      refine w_ceq (t := 121) (q := 94) rfl rfl rfl h8 (by decide) (fun c9 => ?_) (fun c9 => ?_)
      · replace k := k.1 c9
        refine w_iinc (q := 124) (L' := [some (.ref 93), some (w_i (l1 + 1)), some (w_i (I 3 l1))]) (M' := []) rfl rfl rfl rfl rfl rfl ?_
        refine w_goto (t := 15) rfl rfl ?_
        exact k
      · replace k := k.2 c9
        refine w_aload_n (q := 95) rfl rfl rfl ?_
        refine w_gfi (q := 98) (k' := 5) (v := I 93 5) rfl rfl rfl rfl rfl rfl rfl ?_
        refine w_bipush (q := 100) rfl rfl rfl ?_
        obtain ⟨h10, k⟩ := k
        refine w_clt (t := 105) (q := 103) rfl rfl rfl h10 (by decide) (fun c11 => ?_) (fun c11 => ?_)
        · replace k := k.1 c11
          refine w_aload_n (q := 106) rfl rfl rfl ?_
          refine w_aload_n (q := 107) rfl rfl rfl ?_
          refine w_gfr (q := 110) rfl rfl rfl rfl (j := 78) rfl ?_
          refine w_gfr (q := 113) rfl rfl rfl rfl (j := 20) rfl ?_
          refine w_gfr (q := 116) rfl rfl rfl rfl (j := 30) rfl ?_
          refine w_iload_n (q := 117) rfl rfl rfl ?_
          refine w_iald (q := 118) (n := 24) (v := I 30 l1) rfl rfl rfl rfl rfl rfl h4 ?_
          refine w_callv (q := 121) rfl rfl rfl rfl rfl rfl ?_
          exact k
        · replace k := k.2 c11
          refine w_iconst (q := 104) rfl rfl ?_
          refine w_iret rfl rfl k
theorem b108_121 {xs : Nat → Int32} {xl : Nat} {I J : w_I} {b : Bool} {Q : Option Value → w_I → w_I → Bool → Prop} {l1 : Int} {u2 : Option Value} (k : w_T xs xl 108 15 [some (.ref 93), some (w_i (l1 + 1)), u2] [] [] I J b Q) : w_T xs xl 108 121 [some (.ref 93), some (w_i l1), u2] [] [] I J b Q := by
  refine w_iinc (q := 124) (L' := [some (.ref 93), some (w_i (l1 + 1)), u2]) (M' := []) rfl rfl rfl rfl rfl rfl ?_
  refine w_goto (t := 15) rfl rfl ?_
  exact k
theorem e109 {xs : Nat → Int32} {xl : Nat} {I J : w_I} {b : Bool} {Q : Option Value → w_I → w_I → Bool → Prop} {a1 : Int} (t : w_T xs xl 109 0 [some (.ref 93), some (w_i a1), none] [] [] I J b Q) : w_C xs xl 109 [.ref 93, w_i a1] I J b Q := w_en rfl t
theorem b109_0 {xs : Nat → Int32} {xl : Nat} {I J : w_I} {b : Bool} {Q : Option Value → w_I → w_I → Bool → Prop} {a1 : Int} (k : w_T xs xl 109 5 [some (.ref 93), some (w_i a1), some (w_i (I 93 5))] [] [] I J b Q) : w_T xs xl 109 0 [some (.ref 93), some (w_i a1), none] [] [] I J b Q := by
  refine w_aload_n (q := 1) rfl rfl rfl ?_
  refine w_gfi (q := 4) (k' := 5) (v := I 93 5) rfl rfl rfl rfl rfl rfl rfl ?_
  refine w_istore_n (q := 5) (L' := [some (.ref 93), some (w_i a1), some (w_i (I 93 5))]) (M' := []) rfl rfl rfl rfl rfl ?_
  exact k
theorem b109_5 {xs : Nat → Int32} {xl : Nat} {I J : w_I} {b : Bool} {Q : Option Value → w_I → w_I → Bool → Prop} {l1 l2 : Int} (k : ((-2147483648 ≤ l2 ∧ l2 < 2147483648) ∧ ((l2 ≤ 0 → ((0 ≤ l2 ∧ l2 < 12) ∧ Q none (w_U (w_U I 94 l2 l1) 93 5 (I 93 5 + 1)) J b)) ∧ (¬ l2 ≤ 0 → ((0 ≤ l2 - 1 ∧ l2 - 1 < 12) ∧ ((0 ≤ I 94 (l2 - 1) ∧ I 94 (l2 - 1) < 30) ∧ ((0 ≤ l1 ∧ l1 < 30) ∧ ((-2147483648 ≤ I 83 (I 94 (l2 - 1)) ∧ I 83 (I 94 (l2 - 1)) < 2147483648) ∧ (-2147483648 ≤ I 83 l1 ∧ I 83 l1 < 2147483648) ∧ ((I 83 (I 94 (l2 - 1)) ≤ I 83 l1 → ((0 ≤ l2 ∧ l2 < 12) ∧ Q none (w_U (w_U I 94 l2 l1) 93 5 (I 93 5 + 1)) J b)) ∧ (¬ I 83 (I 94 (l2 - 1)) ≤ I 83 l1 → ((0 ≤ l2 ∧ l2 < 12) ∧ w_T xs xl 109 5 [some (.ref 93), some (w_i l1), some (w_i (l2 + (-1)))] [] [] (w_U I 94 l2 (I 94 (l2 - 1))) J b Q))))))))))) : w_T xs xl 109 5 [some (.ref 93), some (w_i l1), some (w_i l2)] [] [] I J b Q := by
  refine w_iload_n (q := 6) rfl rfl rfl ?_
  obtain ⟨h1, k⟩ := k
  refine w_zle (t := 57) (q := 9) rfl rfl rfl h1 (fun c2 => ?_) (fun c2 => ?_)
  · replace k := k.1 c2
    refine w_aload_n (q := 58) rfl rfl rfl ?_
    refine w_gfr (q := 61) rfl rfl rfl rfl (j := 94) rfl ?_
    refine w_iload_n (q := 62) rfl rfl rfl ?_
    refine w_iload_n (q := 63) rfl rfl rfl ?_
    obtain ⟨h3, k⟩ := k
    refine w_iast (q := 64) (n := 12) rfl rfl rfl rfl rfl h3 ?_
    refine w_aload_n (q := 65) rfl rfl rfl ?_
    refine w_dup (q := 66) rfl rfl rfl ?_
    refine w_gfi (q := 69) (k' := 5) (v := I 93 5) rfl rfl rfl rfl rfl rfl rfl ?_
    refine w_iconst (q := 70) rfl rfl ?_
    refine w_iadd (q := 71) rfl rfl ?_
    refine w_pfi (q := 74) (k' := 5) rfl rfl rfl rfl ?_
    exact w_vret rfl k
  · replace k := k.2 c2
    refine w_aload_n (q := 10) rfl rfl rfl ?_
    refine w_gfr (q := 13) rfl rfl rfl rfl (j := 78) rfl ?_
    refine w_gfr (q := 16) rfl rfl rfl rfl (j := 83) rfl ?_
    refine w_aload_n (q := 17) rfl rfl rfl ?_
    refine w_gfr (q := 20) rfl rfl rfl rfl (j := 94) rfl ?_
    refine w_iload_n (q := 21) rfl rfl rfl ?_
    refine w_iconst (q := 22) rfl rfl ?_
    refine w_isub (q := 23) rfl rfl ?_
    obtain ⟨h4, k⟩ := k
    refine w_iald (q := 24) (n := 12) (v := I 94 (l2 - 1)) rfl rfl rfl rfl rfl rfl h4 ?_
    obtain ⟨h5, k⟩ := k
    refine w_iald (q := 25) (n := 30) (v := I 83 (I 94 (l2 - 1))) rfl rfl rfl rfl rfl rfl h5 ?_
    refine w_aload_n (q := 26) rfl rfl rfl ?_
    refine w_gfr (q := 29) rfl rfl rfl rfl (j := 78) rfl ?_
    refine w_gfr (q := 32) rfl rfl rfl rfl (j := 83) rfl ?_
    refine w_iload_n (q := 33) rfl rfl rfl ?_
    obtain ⟨h6, k⟩ := k
    refine w_iald (q := 34) (n := 30) (v := I 83 l1) rfl rfl rfl rfl rfl rfl h6 ?_
    obtain ⟨h7, h8, k⟩ := k
    refine w_cle (t := 57) (q := 37) rfl rfl rfl h7 h8 (fun c9 => ?_) (fun c9 => ?_)
    · replace k := k.1 c9
      refine w_aload_n (q := 58) rfl rfl rfl ?_
      refine w_gfr (q := 61) rfl rfl rfl rfl (j := 94) rfl ?_
      refine w_iload_n (q := 62) rfl rfl rfl ?_
      refine w_iload_n (q := 63) rfl rfl rfl ?_
      obtain ⟨h10, k⟩ := k
      refine w_iast (q := 64) (n := 12) rfl rfl rfl rfl rfl h10 ?_
      refine w_aload_n (q := 65) rfl rfl rfl ?_
      refine w_dup (q := 66) rfl rfl rfl ?_
      refine w_gfi (q := 69) (k' := 5) (v := I 93 5) rfl rfl rfl rfl rfl rfl rfl ?_
      refine w_iconst (q := 70) rfl rfl ?_
      refine w_iadd (q := 71) rfl rfl ?_
      refine w_pfi (q := 74) (k' := 5) rfl rfl rfl rfl ?_
      exact w_vret rfl k
    · replace k := k.2 c9
      refine w_aload_n (q := 38) rfl rfl rfl ?_
      refine w_gfr (q := 41) rfl rfl rfl rfl (j := 94) rfl ?_
      refine w_iload_n (q := 42) rfl rfl rfl ?_
      refine w_aload_n (q := 43) rfl rfl rfl ?_
      refine w_gfr (q := 46) rfl rfl rfl rfl (j := 94) rfl ?_
      refine w_iload_n (q := 47) rfl rfl rfl ?_
      refine w_iconst (q := 48) rfl rfl ?_
      refine w_isub (q := 49) rfl rfl ?_
      refine w_iald (q := 50) (n := 12) (v := I 94 (l2 - 1)) rfl rfl rfl rfl rfl rfl h4 ?_
      obtain ⟨h11, k⟩ := k
      refine w_iast (q := 51) (n := 12) rfl rfl rfl rfl rfl h11 ?_
      refine w_iinc (q := 54) (L' := [some (.ref 93), some (w_i l1), some (w_i (l2 + (-1)))]) (M' := []) rfl rfl rfl rfl rfl rfl ?_
      refine w_goto (t := 5) rfl rfl ?_
      exact k
theorem e110t {xs : Nat → Int32} {xl : Nat} {I J : w_I} {Q : Option Value → w_I → w_I → Bool → Prop} {a1 : Int} (t : w_T xs xl 110 0 [some (.ref 93), some (w_i a1), none, none, none, none, none] [] [] I J true Q) : w_C xs xl 110 [.ref 93, w_i a1] I J true Q := w_en rfl t
theorem b110_0t {xs : Nat → Int32} {xl : Nat} {I J : w_I} {Q : Option Value → w_I → w_I → Bool → Prop} {a1 : Int} (k : ((0 ≤ a1 ∧ a1 < 24) ∧ w_C xs xl 295 [.ref 98, w_i 1073741824] I J true (fun v Ic Jc bc => w_T xs xl 110 31 [some (.ref 93), some (w_i a1), some (w_i (I 97 2 + 1)), some (w_i (4096 + w_shl 1 (I 96 a1))), none, none, none] [] (w_pv v []) Ic Jc bc Q))) : w_T xs xl 110 0 [some (.ref 93), some (w_i a1), none, none, none, none, none] [] [] I J true Q := by
  refine w_aload_n (q := 1) rfl rfl rfl ?_
  refine w_gfr (q := 4) rfl rfl rfl rfl (j := 97) rfl ?_
  refine w_iconst (q := 5) rfl rfl ?_
  refine w_iald (q := 6) (n := 3) (v := I 97 2) rfl rfl rfl rfl rfl rfl (by decide) ?_
  refine w_iconst (q := 7) rfl rfl ?_
  refine w_iadd (q := 8) rfl rfl ?_
  refine w_istore_n (q := 9) (L' := [some (.ref 93), some (w_i a1), some (w_i (I 97 2 + 1)), none, none, none, none]) (M' := []) rfl rfl rfl rfl rfl ?_
  refine w_sipush (q := 12) rfl rfl rfl ?_
  refine w_iconst (q := 13) rfl rfl ?_
  refine w_aload_n (q := 14) rfl rfl rfl ?_
  refine w_gfr (q := 17) rfl rfl rfl rfl (j := 96) rfl ?_
  refine w_iload_n (q := 18) rfl rfl rfl ?_
  obtain ⟨h1, k⟩ := k
  refine w_iald (q := 19) (n := 24) (v := I 96 a1) rfl rfl rfl rfl rfl rfl h1 ?_
  refine w_ishl (q := 20) rfl rfl ?_
  refine w_iadd (q := 21) rfl rfl ?_
  refine w_istore_n (q := 22) (L' := [some (.ref 93), some (w_i a1), some (w_i (I 97 2 + 1)), some (w_i (4096 + w_shl 1 (I 96 a1))), none, none, none]) (M' := []) rfl rfl rfl rfl rfl ?_
  refine w_aload_n (q := 23) rfl rfl rfl ?_
  refine w_gfr (q := 26) rfl rfl rfl rfl (j := 98) rfl ?_
  refine w_ldc (q := 28) (n := 1073741824) rfl rfl rfl ?_
  refine w_call (q := 31) rfl rfl rfl rfl rfl ?_
  exact k
theorem b110_31t {xs : Nat → Int32} {xl : Nat} {I J : w_I} {Q : Option Value → w_I → w_I → Bool → Prop} {l1 l2 l3 : Int} {u4 u5 u6 : Option Value} (k : w_T xs xl 110 34 [some (.ref 93), some (w_i l1), some (w_i l2), some (w_i l3), some (w_i 0), u5, u6] [] [] I J true Q) : w_T xs xl 110 31 [some (.ref 93), some (w_i l1), some (w_i l2), some (w_i l3), u4, u5, u6] [] [] I J true Q := by
  refine w_iconst (q := 32) rfl rfl ?_
  refine w_istore (q := 34) (L' := [some (.ref 93), some (w_i l1), some (w_i l2), some (w_i l3), some (w_i 0), u5, u6]) (M' := []) rfl rfl rfl rfl rfl ?_
  exact k
theorem b110_34t {xs : Nat → Int32} {xl : Nat} {I J : w_I} {Q : Option Value → w_I → w_I → Bool → Prop} {l1 l2 l3 l4 : Int} {u5 u6 : Option Value} (k : ((-2147483648 ≤ l4 ∧ l4 < 2147483648) ∧ (-2147483648 ≤ I 97 1 ∧ I 97 1 < 2147483648) ∧ ((I 97 1 < l4 → w_T xs xl 110 241 [some (.ref 93), some (w_i l1), some (w_i l2), some (w_i l3), some (w_i l4), u5, u6] [] [] I J true Q) ∧ (¬ I 97 1 < l4 → w_T xs xl 110 48 [some (.ref 93), some (w_i l1), some (w_i l2), some (w_i l3), some (w_i l4), some (w_i 0), u6] [] [] I J true Q)))) : w_T xs xl 110 34 [some (.ref 93), some (w_i l1), some (w_i l2), some (w_i l3), some (w_i l4), u5, u6] [] [] I J true Q := by
  refine w_iload (q := 36) rfl rfl rfl ?_
  refine w_aload_n (q := 37) rfl rfl rfl ?_
  refine w_gfr (q := 40) rfl rfl rfl rfl (j := 97) rfl ?_
  refine w_iconst (q := 41) rfl rfl ?_
  refine w_iald (q := 42) (n := 3) (v := I 97 1) rfl rfl rfl rfl rfl rfl (by decide) ?_
  obtain ⟨h1, h2, k⟩ := k
  refine w_cgt (t := 241) (q := 45) rfl rfl rfl h1 h2 (fun c3 => ?_) (fun c3 => ?_)
  · replace k := k.1 c3
    exact k
  · replace k := k.2 c3
    refine w_iconst (q := 46) rfl rfl ?_
    refine w_istore (q := 48) (L' := [some (.ref 93), some (w_i l1), some (w_i l2), some (w_i l3), some (w_i l4), some (w_i 0), u6]) (M' := []) rfl rfl rfl rfl rfl ?_
    exact k
theorem b110_48t {xs : Nat → Int32} {xl : Nat} {I J : w_I} {Q : Option Value → w_I → w_I → Bool → Prop} {l1 l2 l3 l4 l5 : Int} {u6 : Option Value} (k : ((-2147483648 ≤ l5 ∧ l5 < 2147483648) ∧ (-2147483648 ≤ l2 ∧ l2 < 2147483648) ∧ ((l2 ≤ l5 → w_T xs xl 110 34 [some (.ref 93), some (w_i l1), some (w_i l2), some (w_i l3), some (w_i (l4 + 1)), some (w_i l5), u6] [] [] I J true Q) ∧ (¬ l2 ≤ l5 → ((0 ≤ l4 * l2 + l5 ∧ l4 * l2 + l5 < 169) ∧ ((-2147483648 ≤ I 99 (l4 * l2 + l5) ∧ I 99 (l4 * l2 + l5) < 2147483648) ∧ ((1073741824 ≤ I 99 (l4 * l2 + l5) → w_T xs xl 110 48 [some (.ref 93), some (w_i l1), some (w_i l2), some (w_i l3), some (w_i l4), some (w_i (l5 + 1)), some (w_i (I 99 (l4 * l2 + l5)))] [] [] I J true Q) ∧ (¬ 1073741824 ≤ I 99 (l4 * l2 + l5) → ((-2147483648 ≤ l4 ∧ l4 < 2147483648) ∧ (-2147483648 ≤ I 97 1 ∧ I 97 1 < 2147483648) ∧ ((I 97 1 ≤ l4 → ((-2147483648 ≤ I 97 2 ∧ I 97 2 < 2147483648) ∧ ((I 97 2 ≤ l5 → ((0 ≤ l1 ∧ l1 < 24) ∧ ((-2147483648 ≤ I 3 l1 ∧ I 3 l1 < 2147483648) ∧ ((¬ I 3 l1 = 1 → ((¬ I 3 l1 = 2 → w_T xs xl 110 48 [some (.ref 93), some (w_i l1), some (w_i l2), some (w_i l3), some (w_i l4), some (w_i (l5 + 1)), some (w_i (I 99 (l4 * l2 + l5)))] [] [] I J true Q) ∧ (I 3 l1 = 2 → ((-2147483648 ≤ I 95 l1 ∧ I 95 l1 < 2147483648) ∧ ((I 95 l1 < l5 → w_T xs xl 110 48 [some (.ref 93), some (w_i l1), some (w_i l2), some (w_i l3), some (w_i l4), some (w_i (l5 + 1)), some (w_i (I 99 (l4 * l2 + l5)))] [] [] I J true Q) ∧ (¬ I 95 l1 < l5 → w_C xs xl 111 [.ref 93, w_i (l4 * l2 + I 95 l1 + 1), w_i (I 99 (l4 * l2 + l5))] I J true (fun v Ic Jc bc => w_T xs xl 110 229 [some (.ref 93), some (w_i l1), some (w_i l2), some (w_i l3), some (w_i l4), some (w_i l5), some (w_i (I 99 (l4 * l2 + l5)))] [] (w_pv v []) Ic Jc bc Q))))))) ∧ (I 3 l1 = 1 → ((-2147483648 ≤ I 95 l1 ∧ I 95 l1 < 2147483648) ∧ ((I 95 l1 < l4 → ((¬ I 3 l1 = 2 → w_T xs xl 110 48 [some (.ref 93), some (w_i l1), some (w_i l2), some (w_i l3), some (w_i l4), some (w_i (l5 + 1)), some (w_i (I 99 (l4 * l2 + l5)))] [] [] I J true Q) ∧ (I 3 l1 = 2 → ((I 95 l1 < l5 → w_T xs xl 110 48 [some (.ref 93), some (w_i l1), some (w_i l2), some (w_i l3), some (w_i l4), some (w_i (l5 + 1)), some (w_i (I 99 (l4 * l2 + l5)))] [] [] I J true Q) ∧ (¬ I 95 l1 < l5 → w_C xs xl 111 [.ref 93, w_i (l4 * l2 + I 95 l1 + 1), w_i (I 99 (l4 * l2 + l5))] I J true (fun v Ic Jc bc => w_T xs xl 110 229 [some (.ref 93), some (w_i l1), some (w_i l2), some (w_i l3), some (w_i l4), some (w_i l5), some (w_i (I 99 (l4 * l2 + l5)))] [] (w_pv v []) Ic Jc bc Q)))))) ∧ (¬ I 95 l1 < l4 → w_C xs xl 111 [.ref 93, w_i ((I 95 l1 + 1) * l2 + l5), w_i (I 99 (l4 * l2 + l5) + l3)] I J true (fun v Ic Jc bc => w_T xs xl 110 183 [some (.ref 93), some (w_i l1), some (w_i l2), some (w_i l3), some (w_i l4), some (w_i l5), some (w_i (I 99 (l4 * l2 + l5)))] [] (w_pv v []) Ic Jc bc Q))))))))) ∧ (¬ I 97 2 ≤ l5 → w_C xs xl 111 [.ref 93, w_i (l4 * l2 + l5 + 1), w_i (I 99 (l4 * l2 + l5) + 65536)] I J true (fun v Ic Jc bc => w_T xs xl 110 135 [some (.ref 93), some (w_i l1), some (w_i l2), some (w_i l3), some (w_i l4), some (w_i l5), some (w_i (I 99 (l4 * l2 + l5)))] [] (w_pv v []) Ic Jc bc Q))))) ∧ (¬ I 97 1 ≤ l4 → w_C xs xl 111 [.ref 93, w_i ((l4 + 1) * l2 + l5), w_i (I 99 (l4 * l2 + l5) + l3 + 65536)] I J true (fun v Ic Jc bc => w_T xs xl 110 106 [some (.ref 93), some (w_i l1), some (w_i l2), some (w_i l3), some (w_i l4), some (w_i l5), some (w_i (I 99 (l4 * l2 + l5)))] [] (w_pv v []) Ic Jc bc Q)))))))))))) : w_T xs xl 110 48 [some (.ref 93), some (w_i l1), some (w_i l2), some (w_i l3), some (w_i l4), some (w_i l5), u6] [] [] I J true Q := by
  refine w_iload (q := 50) rfl rfl rfl ?_
  refine w_iload_n (q := 51) rfl rfl rfl ?_
  obtain ⟨h1, h2, k⟩ := k
  refine w_cge (t := 235) (q := 54) rfl rfl rfl h1 h2 (fun c3 => ?_) (fun c3 => ?_)
  · replace k := k.1 c3
    refine w_iinc (q := 238) (L' := [some (.ref 93), some (w_i l1), some (w_i l2), some (w_i l3), some (w_i (l4 + 1)), some (w_i l5), u6]) (M' := []) rfl rfl rfl rfl rfl rfl ?_
    refine w_goto (t := 34) rfl rfl ?_
    exact k
  · replace k := k.2 c3
    refine w_aload_n (q := 55) rfl rfl rfl ?_
    refine w_gfr (q := 58) rfl rfl rfl rfl (j := 99) rfl ?_
    refine w_iload (q := 60) rfl rfl rfl ?_
    refine w_iload_n (q := 61) rfl rfl rfl ?_
    refine w_imul (q := 62) rfl rfl ?_
    refine w_iload (q := 64) rfl rfl rfl ?_
    refine w_iadd (q := 65) rfl rfl ?_
    obtain ⟨h4, k⟩ := k
    refine w_iald (q := 66) (n := 169) (v := I 99 (l4 * l2 + l5)) rfl rfl rfl rfl rfl rfl h4 ?_
    refine w_istore (q := 68) (L' := [some (.ref 93), some (w_i l1), some (w_i l2), some (w_i l3), some (w_i l4), some (w_i l5), some (w_i (I 99 (l4 * l2 + l5)))]) (M' := []) rfl rfl rfl rfl rfl ?_
    refine w_iload (q := 70) rfl rfl rfl ?_
    refine w_ldc (q := 72) (n := 1073741824) rfl rfl rfl ?_
    obtain ⟨h5, k⟩ := k
    refine w_cge (t := 229) (q := 75) rfl rfl rfl h5 (by decide) (fun c6 => ?_) (fun c6 => ?_)
    · replace k := k.1 c6
      refine w_iinc (q := 232) (L' := [some (.ref 93), some (w_i l1), some (w_i l2), some (w_i l3), some (w_i l4), some (w_i (l5 + 1)), some (w_i (I 99 (l4 * l2 + l5)))]) (M' := []) rfl rfl rfl rfl rfl rfl ?_
      refine w_goto (t := 48) rfl rfl ?_
      exact k
    · replace k := k.2 c6
      refine w_iload (q := 77) rfl rfl rfl ?_
      refine w_aload_n (q := 78) rfl rfl rfl ?_
      refine w_gfr (q := 81) rfl rfl rfl rfl (j := 97) rfl ?_
      refine w_iconst (q := 82) rfl rfl ?_
      refine w_iald (q := 83) (n := 3) (v := I 97 1) rfl rfl rfl rfl rfl rfl (by decide) ?_
      obtain ⟨h7, h8, k⟩ := k
      refine w_cge (t := 106) (q := 86) rfl rfl rfl h7 h8 (fun c9 => ?_) (fun c9 => ?_)
      · replace k := k.1 c9
        refine w_iload (q := 108) rfl rfl rfl ?_
        refine w_aload_n (q := 109) rfl rfl rfl ?_
        refine w_gfr (q := 112) rfl rfl rfl rfl (j := 97) rfl ?_
        refine w_iconst (q := 113) rfl rfl ?_
        refine w_iald (q := 114) (n := 3) (v := I 97 2) rfl rfl rfl rfl rfl rfl (by decide) ?_
        obtain ⟨h10, k⟩ := k
        refine w_cge (t := 135) (q := 117) rfl rfl rfl h1 h10 (fun c11 => ?_) (fun c11 => ?_)
        · replace k := k.1 c11
          refine w_aload_n (q := 136) rfl rfl rfl ?_
          refine w_gfr (q := 139) rfl rfl rfl rfl (j := 78) rfl ?_
          refine w_gfr (q := 142) rfl rfl rfl rfl (j := 2) rfl ?_
          refine w_gfr (q := 145) rfl rfl rfl rfl (j := 3) rfl ?_
          refine w_iload_n (q := 146) rfl rfl rfl ?_
          obtain ⟨h12, k⟩ := k
          refine w_iald (q := 147) (n := 24) (v := I 3 l1) rfl rfl rfl rfl rfl rfl h12 ?_
          refine w_iconst (q := 148) rfl rfl ?_
          obtain ⟨h13, k⟩ := k
          refine w_cne (t := 183) (q := 151) rfl rfl rfl h13 (by decide) (fun c14 => ?_) (fun c14 => ?_)
          · replace k := k.1 c14
            refine w_aload_n (q := 184) rfl rfl rfl ?_
            refine w_gfr (q := 187) rfl rfl rfl rfl (j := 78) rfl ?_
            refine w_gfr (q := 190) rfl rfl rfl rfl (j := 2) rfl ?_
            refine w_gfr (q := 193) rfl rfl rfl rfl (j := 3) rfl ?_
            refine w_iload_n (q := 194) rfl rfl rfl ?_
            refine w_iald (q := 195) (n := 24) (v := I 3 l1) rfl rfl rfl rfl rfl rfl h12 ?_
            refine w_iconst (q := 196) rfl rfl ?_
            refine w_cne (t := 229) (q := 199) rfl rfl rfl h13 (by decide) (fun c15 => ?_) (fun c15 => ?_)
            · replace k := k.1 c15
              refine w_iinc (q := 232) (L' := [some (.ref 93), some (w_i l1), some (w_i l2), some (w_i l3), some (w_i l4), some (w_i (l5 + 1)), some (w_i (I 99 (l4 * l2 + l5)))]) (M' := []) rfl rfl rfl rfl rfl rfl ?_
              refine w_goto (t := 48) rfl rfl ?_
              exact k
            · replace k := k.2 c15
              refine w_aload_n (q := 200) rfl rfl rfl ?_
              refine w_gfr (q := 203) rfl rfl rfl rfl (j := 95) rfl ?_
              refine w_iload_n (q := 204) rfl rfl rfl ?_
              refine w_iald (q := 205) (n := 24) (v := I 95 l1) rfl rfl rfl rfl rfl rfl h12 ?_
              refine w_iload (q := 207) rfl rfl rfl ?_
              obtain ⟨h16, k⟩ := k
              refine w_clt (t := 229) (q := 210) rfl rfl rfl h16 h1 (fun c17 => ?_) (fun c17 => ?_)
              · replace k := k.1 c17
                refine w_iinc (q := 232) (L' := [some (.ref 93), some (w_i l1), some (w_i l2), some (w_i l3), some (w_i l4), some (w_i (l5 + 1)), some (w_i (I 99 (l4 * l2 + l5)))]) (M' := []) rfl rfl rfl rfl rfl rfl ?_
                refine w_goto (t := 48) rfl rfl ?_
                exact k
              · replace k := k.2 c17
                refine w_aload_n (q := 211) rfl rfl rfl ?_
                refine w_iload (q := 213) rfl rfl rfl ?_
                refine w_iload_n (q := 214) rfl rfl rfl ?_
                refine w_imul (q := 215) rfl rfl ?_
                refine w_aload_n (q := 216) rfl rfl rfl ?_
                refine w_gfr (q := 219) rfl rfl rfl rfl (j := 95) rfl ?_
                refine w_iload_n (q := 220) rfl rfl rfl ?_
                refine w_iald (q := 221) (n := 24) (v := I 95 l1) rfl rfl rfl rfl rfl rfl h12 ?_
                refine w_iadd (q := 222) rfl rfl ?_
                refine w_iconst (q := 223) rfl rfl ?_
                refine w_iadd (q := 224) rfl rfl ?_
                refine w_iload (q := 226) rfl rfl rfl ?_
                refine w_callv (q := 229) rfl rfl rfl rfl rfl rfl ?_
                exact k
          · replace k := k.2 c14
            refine w_aload_n (q := 152) rfl rfl rfl ?_
            refine w_gfr (q := 155) rfl rfl rfl rfl (j := 95) rfl ?_
            refine w_iload_n (q := 156) rfl rfl rfl ?_
            refine w_iald (q := 157) (n := 24) (v := I 95 l1) rfl rfl rfl rfl rfl rfl h12 ?_
            refine w_iload (q := 159) rfl rfl rfl ?_
            obtain ⟨h18, k⟩ := k
            refine w_clt (t := 183) (q := 162) rfl rfl rfl h18 h7 (fun c19 => ?_) (fun c19 => ?_)
            · replace k := k.1 c19
              refine w_aload_n (q := 184) rfl rfl rfl ?_
              refine w_gfr (q := 187) rfl rfl rfl rfl (j := 78) rfl ?_
              refine w_gfr (q := 190) rfl rfl rfl rfl (j := 2) rfl ?_
              refine w_gfr (q := 193) rfl rfl rfl rfl (j := 3) rfl ?_
              refine w_iload_n (q := 194) rfl rfl rfl ?_
              refine w_iald (q := 195) (n := 24) (v := I 3 l1) rfl rfl rfl rfl rfl rfl h12 ?_
              refine w_iconst (q := 196) rfl rfl ?_
              refine w_cne (t := 229) (q := 199) rfl rfl rfl h13 (by decide) (fun c20 => ?_) (fun c20 => ?_)
              · replace k := k.1 c20
                refine w_iinc (q := 232) (L' := [some (.ref 93), some (w_i l1), some (w_i l2), some (w_i l3), some (w_i l4), some (w_i (l5 + 1)), some (w_i (I 99 (l4 * l2 + l5)))]) (M' := []) rfl rfl rfl rfl rfl rfl ?_
                refine w_goto (t := 48) rfl rfl ?_
                exact k
              · replace k := k.2 c20
                refine w_aload_n (q := 200) rfl rfl rfl ?_
                refine w_gfr (q := 203) rfl rfl rfl rfl (j := 95) rfl ?_
                refine w_iload_n (q := 204) rfl rfl rfl ?_
                refine w_iald (q := 205) (n := 24) (v := I 95 l1) rfl rfl rfl rfl rfl rfl h12 ?_
                refine w_iload (q := 207) rfl rfl rfl ?_
                refine w_clt (t := 229) (q := 210) rfl rfl rfl h18 h1 (fun c21 => ?_) (fun c21 => ?_)
                · replace k := k.1 c21
                  refine w_iinc (q := 232) (L' := [some (.ref 93), some (w_i l1), some (w_i l2), some (w_i l3), some (w_i l4), some (w_i (l5 + 1)), some (w_i (I 99 (l4 * l2 + l5)))]) (M' := []) rfl rfl rfl rfl rfl rfl ?_
                  refine w_goto (t := 48) rfl rfl ?_
                  exact k
                · replace k := k.2 c21
                  refine w_aload_n (q := 211) rfl rfl rfl ?_
                  refine w_iload (q := 213) rfl rfl rfl ?_
                  refine w_iload_n (q := 214) rfl rfl rfl ?_
                  refine w_imul (q := 215) rfl rfl ?_
                  refine w_aload_n (q := 216) rfl rfl rfl ?_
                  refine w_gfr (q := 219) rfl rfl rfl rfl (j := 95) rfl ?_
                  refine w_iload_n (q := 220) rfl rfl rfl ?_
                  refine w_iald (q := 221) (n := 24) (v := I 95 l1) rfl rfl rfl rfl rfl rfl h12 ?_
                  refine w_iadd (q := 222) rfl rfl ?_
                  refine w_iconst (q := 223) rfl rfl ?_
                  refine w_iadd (q := 224) rfl rfl ?_
                  refine w_iload (q := 226) rfl rfl rfl ?_
                  refine w_callv (q := 229) rfl rfl rfl rfl rfl rfl ?_
                  exact k
            · replace k := k.2 c19
              refine w_aload_n (q := 163) rfl rfl rfl ?_
              refine w_aload_n (q := 164) rfl rfl rfl ?_
              refine w_gfr (q := 167) rfl rfl rfl rfl (j := 95) rfl ?_
              refine w_iload_n (q := 168) rfl rfl rfl ?_
              refine w_iald (q := 169) (n := 24) (v := I 95 l1) rfl rfl rfl rfl rfl rfl h12 ?_
              refine w_iconst (q := 170) rfl rfl ?_
              refine w_iadd (q := 171) rfl rfl ?_
              refine w_iload_n (q := 172) rfl rfl rfl ?_
              refine w_imul (q := 173) rfl rfl ?_
              refine w_iload (q := 175) rfl rfl rfl ?_
              refine w_iadd (q := 176) rfl rfl ?_
              refine w_iload (q := 178) rfl rfl rfl ?_
              refine w_iload_n (q := 179) rfl rfl rfl ?_
              refine w_iadd (q := 180) rfl rfl ?_
              refine w_callv (q := 183) rfl rfl rfl rfl rfl rfl ?_
              exact k
        · replace k := k.2 c11
          refine w_aload_n (q := 118) rfl rfl rfl ?_
          refine w_iload (q := 120) rfl rfl rfl ?_
          refine w_iload_n (q := 121) rfl rfl rfl ?_
          refine w_imul (q := 122) rfl rfl ?_
          refine w_iload (q := 124) rfl rfl rfl ?_
          refine w_iadd (q := 125) rfl rfl ?_
          refine w_iconst (q := 126) rfl rfl ?_
          refine w_iadd (q := 127) rfl rfl ?_
          refine w_iload (q := 129) rfl rfl rfl ?_
          refine w_ldc (q := 131) (n := 65536) rfl rfl rfl ?_
          refine w_iadd (q := 132) rfl rfl ?_
          refine w_callv (q := 135) rfl rfl rfl rfl rfl rfl ?_
          exact k
      · replace k := k.2 c9
        refine w_aload_n (q := 87) rfl rfl rfl ?_
        refine w_iload (q := 89) rfl rfl rfl ?_
        refine w_iconst (q := 90) rfl rfl ?_
        refine w_iadd (q := 91) rfl rfl ?_
        refine w_iload_n (q := 92) rfl rfl rfl ?_
        refine w_imul (q := 93) rfl rfl ?_
        refine w_iload (q := 95) rfl rfl rfl ?_
        refine w_iadd (q := 96) rfl rfl ?_
        refine w_iload (q := 98) rfl rfl rfl ?_
        refine w_iload_n (q := 99) rfl rfl rfl ?_
        refine w_iadd (q := 100) rfl rfl ?_
        refine w_ldc (q := 102) (n := 65536) rfl rfl rfl ?_
        refine w_iadd (q := 103) rfl rfl ?_
        refine w_callv (q := 106) rfl rfl rfl rfl rfl rfl ?_
        exact k
theorem b110_229t {xs : Nat → Int32} {xl : Nat} {I J : w_I} {Q : Option Value → w_I → w_I → Bool → Prop} {l1 l2 l3 l4 l5 : Int} {u6 : Option Value} (k : w_T xs xl 110 48 [some (.ref 93), some (w_i l1), some (w_i l2), some (w_i l3), some (w_i l4), some (w_i (l5 + 1)), u6] [] [] I J true Q) : w_T xs xl 110 229 [some (.ref 93), some (w_i l1), some (w_i l2), some (w_i l3), some (w_i l4), some (w_i l5), u6] [] [] I J true Q := by
  refine w_iinc (q := 232) (L' := [some (.ref 93), some (w_i l1), some (w_i l2), some (w_i l3), some (w_i l4), some (w_i (l5 + 1)), u6]) (M' := []) rfl rfl rfl rfl rfl rfl ?_
  refine w_goto (t := 48) rfl rfl ?_
  exact k
theorem b110_183t {xs : Nat → Int32} {xl : Nat} {I J : w_I} {Q : Option Value → w_I → w_I → Bool → Prop} {l1 l2 l3 l4 l5 l6 : Int} (k : ((0 ≤ l1 ∧ l1 < 24) ∧ ((-2147483648 ≤ I 3 l1 ∧ I 3 l1 < 2147483648) ∧ ((¬ I 3 l1 = 2 → w_T xs xl 110 48 [some (.ref 93), some (w_i l1), some (w_i l2), some (w_i l3), some (w_i l4), some (w_i (l5 + 1)), some (w_i l6)] [] [] I J true Q) ∧ (I 3 l1 = 2 → ((-2147483648 ≤ I 95 l1 ∧ I 95 l1 < 2147483648) ∧ (-2147483648 ≤ l5 ∧ l5 < 2147483648) ∧ ((I 95 l1 < l5 → w_T xs xl 110 48 [some (.ref 93), some (w_i l1), some (w_i l2), some (w_i l3), some (w_i l4), some (w_i (l5 + 1)), some (w_i l6)] [] [] I J true Q) ∧ (¬ I 95 l1 < l5 → w_C xs xl 111 [.ref 93, w_i (l4 * l2 + I 95 l1 + 1), w_i l6] I J true (fun v Ic Jc bc => w_T xs xl 110 229 [some (.ref 93), some (w_i l1), some (w_i l2), some (w_i l3), some (w_i l4), some (w_i l5), some (w_i l6)] [] (w_pv v []) Ic Jc bc Q))))))))) : w_T xs xl 110 183 [some (.ref 93), some (w_i l1), some (w_i l2), some (w_i l3), some (w_i l4), some (w_i l5), some (w_i l6)] [] [] I J true Q := by
  refine w_aload_n (q := 184) rfl rfl rfl ?_
  refine w_gfr (q := 187) rfl rfl rfl rfl (j := 78) rfl ?_
  refine w_gfr (q := 190) rfl rfl rfl rfl (j := 2) rfl ?_
  refine w_gfr (q := 193) rfl rfl rfl rfl (j := 3) rfl ?_
  refine w_iload_n (q := 194) rfl rfl rfl ?_
  obtain ⟨h1, k⟩ := k
  refine w_iald (q := 195) (n := 24) (v := I 3 l1) rfl rfl rfl rfl rfl rfl h1 ?_
  refine w_iconst (q := 196) rfl rfl ?_
  obtain ⟨h2, k⟩ := k
  refine w_cne (t := 229) (q := 199) rfl rfl rfl h2 (by decide) (fun c3 => ?_) (fun c3 => ?_)
  · replace k := k.1 c3
    refine w_iinc (q := 232) (L' := [some (.ref 93), some (w_i l1), some (w_i l2), some (w_i l3), some (w_i l4), some (w_i (l5 + 1)), some (w_i l6)]) (M' := []) rfl rfl rfl rfl rfl rfl ?_
    refine w_goto (t := 48) rfl rfl ?_
    exact k
  · replace k := k.2 c3
    refine w_aload_n (q := 200) rfl rfl rfl ?_
    refine w_gfr (q := 203) rfl rfl rfl rfl (j := 95) rfl ?_
    refine w_iload_n (q := 204) rfl rfl rfl ?_
    refine w_iald (q := 205) (n := 24) (v := I 95 l1) rfl rfl rfl rfl rfl rfl h1 ?_
    refine w_iload (q := 207) rfl rfl rfl ?_
    obtain ⟨h4, h5, k⟩ := k
    refine w_clt (t := 229) (q := 210) rfl rfl rfl h4 h5 (fun c6 => ?_) (fun c6 => ?_)
    · replace k := k.1 c6
      refine w_iinc (q := 232) (L' := [some (.ref 93), some (w_i l1), some (w_i l2), some (w_i l3), some (w_i l4), some (w_i (l5 + 1)), some (w_i l6)]) (M' := []) rfl rfl rfl rfl rfl rfl ?_
      refine w_goto (t := 48) rfl rfl ?_
      exact k
    · replace k := k.2 c6
      refine w_aload_n (q := 211) rfl rfl rfl ?_
      refine w_iload (q := 213) rfl rfl rfl ?_
      refine w_iload_n (q := 214) rfl rfl rfl ?_
      refine w_imul (q := 215) rfl rfl ?_
      refine w_aload_n (q := 216) rfl rfl rfl ?_
      refine w_gfr (q := 219) rfl rfl rfl rfl (j := 95) rfl ?_
      refine w_iload_n (q := 220) rfl rfl rfl ?_
      refine w_iald (q := 221) (n := 24) (v := I 95 l1) rfl rfl rfl rfl rfl rfl h1 ?_
      refine w_iadd (q := 222) rfl rfl ?_
      refine w_iconst (q := 223) rfl rfl ?_
      refine w_iadd (q := 224) rfl rfl ?_
      refine w_iload (q := 226) rfl rfl rfl ?_
      refine w_callv (q := 229) rfl rfl rfl rfl rfl rfl ?_
      exact k
theorem b110_135t {xs : Nat → Int32} {xl : Nat} {I J : w_I} {Q : Option Value → w_I → w_I → Bool → Prop} {l1 l2 l3 l4 l5 l6 : Int} (k : ((0 ≤ l1 ∧ l1 < 24) ∧ ((-2147483648 ≤ I 3 l1 ∧ I 3 l1 < 2147483648) ∧ ((¬ I 3 l1 = 1 → ((¬ I 3 l1 = 2 → w_T xs xl 110 48 [some (.ref 93), some (w_i l1), some (w_i l2), some (w_i l3), some (w_i l4), some (w_i (l5 + 1)), some (w_i l6)] [] [] I J true Q) ∧ (I 3 l1 = 2 → ((-2147483648 ≤ I 95 l1 ∧ I 95 l1 < 2147483648) ∧ (-2147483648 ≤ l5 ∧ l5 < 2147483648) ∧ ((I 95 l1 < l5 → w_T xs xl 110 48 [some (.ref 93), some (w_i l1), some (w_i l2), some (w_i l3), some (w_i l4), some (w_i (l5 + 1)), some (w_i l6)] [] [] I J true Q) ∧ (¬ I 95 l1 < l5 → w_C xs xl 111 [.ref 93, w_i (l4 * l2 + I 95 l1 + 1), w_i l6] I J true (fun v Ic Jc bc => w_T xs xl 110 229 [some (.ref 93), some (w_i l1), some (w_i l2), some (w_i l3), some (w_i l4), some (w_i l5), some (w_i l6)] [] (w_pv v []) Ic Jc bc Q))))))) ∧ (I 3 l1 = 1 → ((-2147483648 ≤ I 95 l1 ∧ I 95 l1 < 2147483648) ∧ (-2147483648 ≤ l4 ∧ l4 < 2147483648) ∧ ((I 95 l1 < l4 → ((¬ I 3 l1 = 2 → w_T xs xl 110 48 [some (.ref 93), some (w_i l1), some (w_i l2), some (w_i l3), some (w_i l4), some (w_i (l5 + 1)), some (w_i l6)] [] [] I J true Q) ∧ (I 3 l1 = 2 → ((-2147483648 ≤ l5 ∧ l5 < 2147483648) ∧ ((I 95 l1 < l5 → w_T xs xl 110 48 [some (.ref 93), some (w_i l1), some (w_i l2), some (w_i l3), some (w_i l4), some (w_i (l5 + 1)), some (w_i l6)] [] [] I J true Q) ∧ (¬ I 95 l1 < l5 → w_C xs xl 111 [.ref 93, w_i (l4 * l2 + I 95 l1 + 1), w_i l6] I J true (fun v Ic Jc bc => w_T xs xl 110 229 [some (.ref 93), some (w_i l1), some (w_i l2), some (w_i l3), some (w_i l4), some (w_i l5), some (w_i l6)] [] (w_pv v []) Ic Jc bc Q))))))) ∧ (¬ I 95 l1 < l4 → w_C xs xl 111 [.ref 93, w_i ((I 95 l1 + 1) * l2 + l5), w_i (l6 + l3)] I J true (fun v Ic Jc bc => w_T xs xl 110 183 [some (.ref 93), some (w_i l1), some (w_i l2), some (w_i l3), some (w_i l4), some (w_i l5), some (w_i l6)] [] (w_pv v []) Ic Jc bc Q))))))))) : w_T xs xl 110 135 [some (.ref 93), some (w_i l1), some (w_i l2), some (w_i l3), some (w_i l4), some (w_i l5), some (w_i l6)] [] [] I J true Q := by
  refine w_aload_n (q := 136) rfl rfl rfl ?_
  refine w_gfr (q := 139) rfl rfl rfl rfl (j := 78) rfl ?_
  refine w_gfr (q := 142) rfl rfl rfl rfl (j := 2) rfl ?_
  refine w_gfr (q := 145) rfl rfl rfl rfl (j := 3) rfl ?_
  refine w_iload_n (q := 146) rfl rfl rfl ?_
  obtain ⟨h1, k⟩ := k
  refine w_iald (q := 147) (n := 24) (v := I 3 l1) rfl rfl rfl rfl rfl rfl h1 ?_
  refine w_iconst (q := 148) rfl rfl ?_
  obtain ⟨h2, k⟩ := k
  refine w_cne (t := 183) (q := 151) rfl rfl rfl h2 (by decide) (fun c3 => ?_) (fun c3 => ?_)
  · replace k := k.1 c3
    refine w_aload_n (q := 184) rfl rfl rfl ?_
    refine w_gfr (q := 187) rfl rfl rfl rfl (j := 78) rfl ?_
    refine w_gfr (q := 190) rfl rfl rfl rfl (j := 2) rfl ?_
    refine w_gfr (q := 193) rfl rfl rfl rfl (j := 3) rfl ?_
    refine w_iload_n (q := 194) rfl rfl rfl ?_
    refine w_iald (q := 195) (n := 24) (v := I 3 l1) rfl rfl rfl rfl rfl rfl h1 ?_
    refine w_iconst (q := 196) rfl rfl ?_
    refine w_cne (t := 229) (q := 199) rfl rfl rfl h2 (by decide) (fun c4 => ?_) (fun c4 => ?_)
    · replace k := k.1 c4
      refine w_iinc (q := 232) (L' := [some (.ref 93), some (w_i l1), some (w_i l2), some (w_i l3), some (w_i l4), some (w_i (l5 + 1)), some (w_i l6)]) (M' := []) rfl rfl rfl rfl rfl rfl ?_
      refine w_goto (t := 48) rfl rfl ?_
      exact k
    · replace k := k.2 c4
      refine w_aload_n (q := 200) rfl rfl rfl ?_
      refine w_gfr (q := 203) rfl rfl rfl rfl (j := 95) rfl ?_
      refine w_iload_n (q := 204) rfl rfl rfl ?_
      refine w_iald (q := 205) (n := 24) (v := I 95 l1) rfl rfl rfl rfl rfl rfl h1 ?_
      refine w_iload (q := 207) rfl rfl rfl ?_
      obtain ⟨h5, h6, k⟩ := k
      refine w_clt (t := 229) (q := 210) rfl rfl rfl h5 h6 (fun c7 => ?_) (fun c7 => ?_)
      · replace k := k.1 c7
        refine w_iinc (q := 232) (L' := [some (.ref 93), some (w_i l1), some (w_i l2), some (w_i l3), some (w_i l4), some (w_i (l5 + 1)), some (w_i l6)]) (M' := []) rfl rfl rfl rfl rfl rfl ?_
        refine w_goto (t := 48) rfl rfl ?_
        exact k
      · replace k := k.2 c7
        refine w_aload_n (q := 211) rfl rfl rfl ?_
        refine w_iload (q := 213) rfl rfl rfl ?_
        refine w_iload_n (q := 214) rfl rfl rfl ?_
        refine w_imul (q := 215) rfl rfl ?_
        refine w_aload_n (q := 216) rfl rfl rfl ?_
        refine w_gfr (q := 219) rfl rfl rfl rfl (j := 95) rfl ?_
        refine w_iload_n (q := 220) rfl rfl rfl ?_
        refine w_iald (q := 221) (n := 24) (v := I 95 l1) rfl rfl rfl rfl rfl rfl h1 ?_
        refine w_iadd (q := 222) rfl rfl ?_
        refine w_iconst (q := 223) rfl rfl ?_
        refine w_iadd (q := 224) rfl rfl ?_
        refine w_iload (q := 226) rfl rfl rfl ?_
        refine w_callv (q := 229) rfl rfl rfl rfl rfl rfl ?_
        exact k
  · replace k := k.2 c3
    refine w_aload_n (q := 152) rfl rfl rfl ?_
    refine w_gfr (q := 155) rfl rfl rfl rfl (j := 95) rfl ?_
    refine w_iload_n (q := 156) rfl rfl rfl ?_
    refine w_iald (q := 157) (n := 24) (v := I 95 l1) rfl rfl rfl rfl rfl rfl h1 ?_
    refine w_iload (q := 159) rfl rfl rfl ?_
    obtain ⟨h8, h9, k⟩ := k
    refine w_clt (t := 183) (q := 162) rfl rfl rfl h8 h9 (fun c10 => ?_) (fun c10 => ?_)
    · replace k := k.1 c10
      refine w_aload_n (q := 184) rfl rfl rfl ?_
      refine w_gfr (q := 187) rfl rfl rfl rfl (j := 78) rfl ?_
      refine w_gfr (q := 190) rfl rfl rfl rfl (j := 2) rfl ?_
      refine w_gfr (q := 193) rfl rfl rfl rfl (j := 3) rfl ?_
      refine w_iload_n (q := 194) rfl rfl rfl ?_
      refine w_iald (q := 195) (n := 24) (v := I 3 l1) rfl rfl rfl rfl rfl rfl h1 ?_
      refine w_iconst (q := 196) rfl rfl ?_
      refine w_cne (t := 229) (q := 199) rfl rfl rfl h2 (by decide) (fun c11 => ?_) (fun c11 => ?_)
      · replace k := k.1 c11
        refine w_iinc (q := 232) (L' := [some (.ref 93), some (w_i l1), some (w_i l2), some (w_i l3), some (w_i l4), some (w_i (l5 + 1)), some (w_i l6)]) (M' := []) rfl rfl rfl rfl rfl rfl ?_
        refine w_goto (t := 48) rfl rfl ?_
        exact k
      · replace k := k.2 c11
        refine w_aload_n (q := 200) rfl rfl rfl ?_
        refine w_gfr (q := 203) rfl rfl rfl rfl (j := 95) rfl ?_
        refine w_iload_n (q := 204) rfl rfl rfl ?_
        refine w_iald (q := 205) (n := 24) (v := I 95 l1) rfl rfl rfl rfl rfl rfl h1 ?_
        refine w_iload (q := 207) rfl rfl rfl ?_
        obtain ⟨h12, k⟩ := k
        refine w_clt (t := 229) (q := 210) rfl rfl rfl h8 h12 (fun c13 => ?_) (fun c13 => ?_)
        · replace k := k.1 c13
          refine w_iinc (q := 232) (L' := [some (.ref 93), some (w_i l1), some (w_i l2), some (w_i l3), some (w_i l4), some (w_i (l5 + 1)), some (w_i l6)]) (M' := []) rfl rfl rfl rfl rfl rfl ?_
          refine w_goto (t := 48) rfl rfl ?_
          exact k
        · replace k := k.2 c13
          refine w_aload_n (q := 211) rfl rfl rfl ?_
          refine w_iload (q := 213) rfl rfl rfl ?_
          refine w_iload_n (q := 214) rfl rfl rfl ?_
          refine w_imul (q := 215) rfl rfl ?_
          refine w_aload_n (q := 216) rfl rfl rfl ?_
          refine w_gfr (q := 219) rfl rfl rfl rfl (j := 95) rfl ?_
          refine w_iload_n (q := 220) rfl rfl rfl ?_
          refine w_iald (q := 221) (n := 24) (v := I 95 l1) rfl rfl rfl rfl rfl rfl h1 ?_
          refine w_iadd (q := 222) rfl rfl ?_
          refine w_iconst (q := 223) rfl rfl ?_
          refine w_iadd (q := 224) rfl rfl ?_
          refine w_iload (q := 226) rfl rfl rfl ?_
          refine w_callv (q := 229) rfl rfl rfl rfl rfl rfl ?_
          exact k
    · replace k := k.2 c10
      refine w_aload_n (q := 163) rfl rfl rfl ?_
      refine w_aload_n (q := 164) rfl rfl rfl ?_
      refine w_gfr (q := 167) rfl rfl rfl rfl (j := 95) rfl ?_
      refine w_iload_n (q := 168) rfl rfl rfl ?_
      refine w_iald (q := 169) (n := 24) (v := I 95 l1) rfl rfl rfl rfl rfl rfl h1 ?_
      refine w_iconst (q := 170) rfl rfl ?_
      refine w_iadd (q := 171) rfl rfl ?_
      refine w_iload_n (q := 172) rfl rfl rfl ?_
      refine w_imul (q := 173) rfl rfl ?_
      refine w_iload (q := 175) rfl rfl rfl ?_
      refine w_iadd (q := 176) rfl rfl ?_
      refine w_iload (q := 178) rfl rfl rfl ?_
      refine w_iload_n (q := 179) rfl rfl rfl ?_
      refine w_iadd (q := 180) rfl rfl ?_
      refine w_callv (q := 183) rfl rfl rfl rfl rfl rfl ?_
      exact k
theorem b110_106t {xs : Nat → Int32} {xl : Nat} {I J : w_I} {Q : Option Value → w_I → w_I → Bool → Prop} {l1 l2 l3 l4 l5 l6 : Int} (k : ((-2147483648 ≤ l5 ∧ l5 < 2147483648) ∧ (-2147483648 ≤ I 97 2 ∧ I 97 2 < 2147483648) ∧ ((I 97 2 ≤ l5 → ((0 ≤ l1 ∧ l1 < 24) ∧ ((-2147483648 ≤ I 3 l1 ∧ I 3 l1 < 2147483648) ∧ ((¬ I 3 l1 = 1 → ((¬ I 3 l1 = 2 → w_T xs xl 110 48 [some (.ref 93), some (w_i l1), some (w_i l2), some (w_i l3), some (w_i l4), some (w_i (l5 + 1)), some (w_i l6)] [] [] I J true Q) ∧ (I 3 l1 = 2 → ((-2147483648 ≤ I 95 l1 ∧ I 95 l1 < 2147483648) ∧ ((I 95 l1 < l5 → w_T xs xl 110 48 [some (.ref 93), some (w_i l1), some (w_i l2), some (w_i l3), some (w_i l4), some (w_i (l5 + 1)), some (w_i l6)] [] [] I J true Q) ∧ (¬ I 95 l1 < l5 → w_C xs xl 111 [.ref 93, w_i (l4 * l2 + I 95 l1 + 1), w_i l6] I J true (fun v Ic Jc bc => w_T xs xl 110 229 [some (.ref 93), some (w_i l1), some (w_i l2), some (w_i l3), some (w_i l4), some (w_i l5), some (w_i l6)] [] (w_pv v []) Ic Jc bc Q))))))) ∧ (I 3 l1 = 1 → ((-2147483648 ≤ I 95 l1 ∧ I 95 l1 < 2147483648) ∧ (-2147483648 ≤ l4 ∧ l4 < 2147483648) ∧ ((I 95 l1 < l4 → ((¬ I 3 l1 = 2 → w_T xs xl 110 48 [some (.ref 93), some (w_i l1), some (w_i l2), some (w_i l3), some (w_i l4), some (w_i (l5 + 1)), some (w_i l6)] [] [] I J true Q) ∧ (I 3 l1 = 2 → ((I 95 l1 < l5 → w_T xs xl 110 48 [some (.ref 93), some (w_i l1), some (w_i l2), some (w_i l3), some (w_i l4), some (w_i (l5 + 1)), some (w_i l6)] [] [] I J true Q) ∧ (¬ I 95 l1 < l5 → w_C xs xl 111 [.ref 93, w_i (l4 * l2 + I 95 l1 + 1), w_i l6] I J true (fun v Ic Jc bc => w_T xs xl 110 229 [some (.ref 93), some (w_i l1), some (w_i l2), some (w_i l3), some (w_i l4), some (w_i l5), some (w_i l6)] [] (w_pv v []) Ic Jc bc Q)))))) ∧ (¬ I 95 l1 < l4 → w_C xs xl 111 [.ref 93, w_i ((I 95 l1 + 1) * l2 + l5), w_i (l6 + l3)] I J true (fun v Ic Jc bc => w_T xs xl 110 183 [some (.ref 93), some (w_i l1), some (w_i l2), some (w_i l3), some (w_i l4), some (w_i l5), some (w_i l6)] [] (w_pv v []) Ic Jc bc Q))))))))) ∧ (¬ I 97 2 ≤ l5 → w_C xs xl 111 [.ref 93, w_i (l4 * l2 + l5 + 1), w_i (l6 + 65536)] I J true (fun v Ic Jc bc => w_T xs xl 110 135 [some (.ref 93), some (w_i l1), some (w_i l2), some (w_i l3), some (w_i l4), some (w_i l5), some (w_i l6)] [] (w_pv v []) Ic Jc bc Q))))) : w_T xs xl 110 106 [some (.ref 93), some (w_i l1), some (w_i l2), some (w_i l3), some (w_i l4), some (w_i l5), some (w_i l6)] [] [] I J true Q := by
  refine w_iload (q := 108) rfl rfl rfl ?_
  refine w_aload_n (q := 109) rfl rfl rfl ?_
  refine w_gfr (q := 112) rfl rfl rfl rfl (j := 97) rfl ?_
  refine w_iconst (q := 113) rfl rfl ?_
  refine w_iald (q := 114) (n := 3) (v := I 97 2) rfl rfl rfl rfl rfl rfl (by decide) ?_
  obtain ⟨h1, h2, k⟩ := k
  refine w_cge (t := 135) (q := 117) rfl rfl rfl h1 h2 (fun c3 => ?_) (fun c3 => ?_)
  · replace k := k.1 c3
    refine w_aload_n (q := 136) rfl rfl rfl ?_
    refine w_gfr (q := 139) rfl rfl rfl rfl (j := 78) rfl ?_
    refine w_gfr (q := 142) rfl rfl rfl rfl (j := 2) rfl ?_
    refine w_gfr (q := 145) rfl rfl rfl rfl (j := 3) rfl ?_
    refine w_iload_n (q := 146) rfl rfl rfl ?_
    obtain ⟨h4, k⟩ := k
    refine w_iald (q := 147) (n := 24) (v := I 3 l1) rfl rfl rfl rfl rfl rfl h4 ?_
    refine w_iconst (q := 148) rfl rfl ?_
    obtain ⟨h5, k⟩ := k
    refine w_cne (t := 183) (q := 151) rfl rfl rfl h5 (by decide) (fun c6 => ?_) (fun c6 => ?_)
    · replace k := k.1 c6
      refine w_aload_n (q := 184) rfl rfl rfl ?_
      refine w_gfr (q := 187) rfl rfl rfl rfl (j := 78) rfl ?_
      refine w_gfr (q := 190) rfl rfl rfl rfl (j := 2) rfl ?_
      refine w_gfr (q := 193) rfl rfl rfl rfl (j := 3) rfl ?_
      refine w_iload_n (q := 194) rfl rfl rfl ?_
      refine w_iald (q := 195) (n := 24) (v := I 3 l1) rfl rfl rfl rfl rfl rfl h4 ?_
      refine w_iconst (q := 196) rfl rfl ?_
      refine w_cne (t := 229) (q := 199) rfl rfl rfl h5 (by decide) (fun c7 => ?_) (fun c7 => ?_)
      · replace k := k.1 c7
        refine w_iinc (q := 232) (L' := [some (.ref 93), some (w_i l1), some (w_i l2), some (w_i l3), some (w_i l4), some (w_i (l5 + 1)), some (w_i l6)]) (M' := []) rfl rfl rfl rfl rfl rfl ?_
        refine w_goto (t := 48) rfl rfl ?_
        exact k
      · replace k := k.2 c7
        refine w_aload_n (q := 200) rfl rfl rfl ?_
        refine w_gfr (q := 203) rfl rfl rfl rfl (j := 95) rfl ?_
        refine w_iload_n (q := 204) rfl rfl rfl ?_
        refine w_iald (q := 205) (n := 24) (v := I 95 l1) rfl rfl rfl rfl rfl rfl h4 ?_
        refine w_iload (q := 207) rfl rfl rfl ?_
        obtain ⟨h8, k⟩ := k
        refine w_clt (t := 229) (q := 210) rfl rfl rfl h8 h1 (fun c9 => ?_) (fun c9 => ?_)
        · replace k := k.1 c9
          refine w_iinc (q := 232) (L' := [some (.ref 93), some (w_i l1), some (w_i l2), some (w_i l3), some (w_i l4), some (w_i (l5 + 1)), some (w_i l6)]) (M' := []) rfl rfl rfl rfl rfl rfl ?_
          refine w_goto (t := 48) rfl rfl ?_
          exact k
        · replace k := k.2 c9
          refine w_aload_n (q := 211) rfl rfl rfl ?_
          refine w_iload (q := 213) rfl rfl rfl ?_
          refine w_iload_n (q := 214) rfl rfl rfl ?_
          refine w_imul (q := 215) rfl rfl ?_
          refine w_aload_n (q := 216) rfl rfl rfl ?_
          refine w_gfr (q := 219) rfl rfl rfl rfl (j := 95) rfl ?_
          refine w_iload_n (q := 220) rfl rfl rfl ?_
          refine w_iald (q := 221) (n := 24) (v := I 95 l1) rfl rfl rfl rfl rfl rfl h4 ?_
          refine w_iadd (q := 222) rfl rfl ?_
          refine w_iconst (q := 223) rfl rfl ?_
          refine w_iadd (q := 224) rfl rfl ?_
          refine w_iload (q := 226) rfl rfl rfl ?_
          refine w_callv (q := 229) rfl rfl rfl rfl rfl rfl ?_
          exact k
    · replace k := k.2 c6
      refine w_aload_n (q := 152) rfl rfl rfl ?_
      refine w_gfr (q := 155) rfl rfl rfl rfl (j := 95) rfl ?_
      refine w_iload_n (q := 156) rfl rfl rfl ?_
      refine w_iald (q := 157) (n := 24) (v := I 95 l1) rfl rfl rfl rfl rfl rfl h4 ?_
      refine w_iload (q := 159) rfl rfl rfl ?_
      obtain ⟨h10, h11, k⟩ := k
      refine w_clt (t := 183) (q := 162) rfl rfl rfl h10 h11 (fun c12 => ?_) (fun c12 => ?_)
      · replace k := k.1 c12
        refine w_aload_n (q := 184) rfl rfl rfl ?_
        refine w_gfr (q := 187) rfl rfl rfl rfl (j := 78) rfl ?_
        refine w_gfr (q := 190) rfl rfl rfl rfl (j := 2) rfl ?_
        refine w_gfr (q := 193) rfl rfl rfl rfl (j := 3) rfl ?_
        refine w_iload_n (q := 194) rfl rfl rfl ?_
        refine w_iald (q := 195) (n := 24) (v := I 3 l1) rfl rfl rfl rfl rfl rfl h4 ?_
        refine w_iconst (q := 196) rfl rfl ?_
        refine w_cne (t := 229) (q := 199) rfl rfl rfl h5 (by decide) (fun c13 => ?_) (fun c13 => ?_)
        · replace k := k.1 c13
          refine w_iinc (q := 232) (L' := [some (.ref 93), some (w_i l1), some (w_i l2), some (w_i l3), some (w_i l4), some (w_i (l5 + 1)), some (w_i l6)]) (M' := []) rfl rfl rfl rfl rfl rfl ?_
          refine w_goto (t := 48) rfl rfl ?_
          exact k
        · replace k := k.2 c13
          refine w_aload_n (q := 200) rfl rfl rfl ?_
          refine w_gfr (q := 203) rfl rfl rfl rfl (j := 95) rfl ?_
          refine w_iload_n (q := 204) rfl rfl rfl ?_
          refine w_iald (q := 205) (n := 24) (v := I 95 l1) rfl rfl rfl rfl rfl rfl h4 ?_
          refine w_iload (q := 207) rfl rfl rfl ?_
          refine w_clt (t := 229) (q := 210) rfl rfl rfl h10 h1 (fun c14 => ?_) (fun c14 => ?_)
          · replace k := k.1 c14
            refine w_iinc (q := 232) (L' := [some (.ref 93), some (w_i l1), some (w_i l2), some (w_i l3), some (w_i l4), some (w_i (l5 + 1)), some (w_i l6)]) (M' := []) rfl rfl rfl rfl rfl rfl ?_
            refine w_goto (t := 48) rfl rfl ?_
            exact k
          · replace k := k.2 c14
            refine w_aload_n (q := 211) rfl rfl rfl ?_
            refine w_iload (q := 213) rfl rfl rfl ?_
            refine w_iload_n (q := 214) rfl rfl rfl ?_
            refine w_imul (q := 215) rfl rfl ?_
            refine w_aload_n (q := 216) rfl rfl rfl ?_
            refine w_gfr (q := 219) rfl rfl rfl rfl (j := 95) rfl ?_
            refine w_iload_n (q := 220) rfl rfl rfl ?_
            refine w_iald (q := 221) (n := 24) (v := I 95 l1) rfl rfl rfl rfl rfl rfl h4 ?_
            refine w_iadd (q := 222) rfl rfl ?_
            refine w_iconst (q := 223) rfl rfl ?_
            refine w_iadd (q := 224) rfl rfl ?_
            refine w_iload (q := 226) rfl rfl rfl ?_
            refine w_callv (q := 229) rfl rfl rfl rfl rfl rfl ?_
            exact k
      · replace k := k.2 c12
        refine w_aload_n (q := 163) rfl rfl rfl ?_
        refine w_aload_n (q := 164) rfl rfl rfl ?_
        refine w_gfr (q := 167) rfl rfl rfl rfl (j := 95) rfl ?_
        refine w_iload_n (q := 168) rfl rfl rfl ?_
        refine w_iald (q := 169) (n := 24) (v := I 95 l1) rfl rfl rfl rfl rfl rfl h4 ?_
        refine w_iconst (q := 170) rfl rfl ?_
        refine w_iadd (q := 171) rfl rfl ?_
        refine w_iload_n (q := 172) rfl rfl rfl ?_
        refine w_imul (q := 173) rfl rfl ?_
        refine w_iload (q := 175) rfl rfl rfl ?_
        refine w_iadd (q := 176) rfl rfl ?_
        refine w_iload (q := 178) rfl rfl rfl ?_
        refine w_iload_n (q := 179) rfl rfl rfl ?_
        refine w_iadd (q := 180) rfl rfl ?_
        refine w_callv (q := 183) rfl rfl rfl rfl rfl rfl ?_
        exact k
  · replace k := k.2 c3
    refine w_aload_n (q := 118) rfl rfl rfl ?_
    refine w_iload (q := 120) rfl rfl rfl ?_
    refine w_iload_n (q := 121) rfl rfl rfl ?_
    refine w_imul (q := 122) rfl rfl ?_
    refine w_iload (q := 124) rfl rfl rfl ?_
    refine w_iadd (q := 125) rfl rfl ?_
    refine w_iconst (q := 126) rfl rfl ?_
    refine w_iadd (q := 127) rfl rfl ?_
    refine w_iload (q := 129) rfl rfl rfl ?_
    refine w_ldc (q := 131) (n := 65536) rfl rfl rfl ?_
    refine w_iadd (q := 132) rfl rfl ?_
    refine w_callv (q := 135) rfl rfl rfl rfl rfl rfl ?_
    exact k
end
