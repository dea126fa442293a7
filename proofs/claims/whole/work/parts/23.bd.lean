section
theorem e110f {xs : Nat → Int32} {xl : Nat} {I J : w_I} {Q : Option Value → w_I → w_I → Bool → Prop} {a1 : Int} (t : w_T xs xl 110 0 [some (.ref 93), some (w_i a1), none, none, none, none, none] [] [] I J false Q) : w_C xs xl 110 [.ref 93, w_i a1] I J false Q := w_en rfl t
theorem b110_0f {xs : Nat → Int32} {xl : Nat} {I J : w_I} {Q : Option Value → w_I → w_I → Bool → Prop} {a1 : Int} (k : ((0 ≤ a1 ∧ a1 < 24) ∧ w_C xs xl 295 [.ref 99, w_i 1073741824] I J false (fun v Ic Jc bc => w_T xs xl 110 31 [some (.ref 93), some (w_i a1), some (w_i (I 97 2 + 1)), some (w_i (4096 + w_shl 1 (I 96 a1))), none, none, none] [] (w_pv v []) Ic Jc bc Q))) : w_T xs xl 110 0 [some (.ref 93), some (w_i a1), none, none, none, none, none] [] [] I J false Q := by
  refine w_aload_n (q := 1) rfl rfl rfl ?_
  refine w_gfr (q := 4) rfl rfl rfl rfl (j := 97) rfl ?_
  refine w_iconst (q := 5) rfl rfl ?_
  refine w_iald (q := 6) (n := 3) (v := I 97 2) rfl rfl rfl rfl rfl rfl (by decide) ?_
  refine w_iconst (q := 7) rfl rfl ?_
  refine w_iadd (q := 8) rfl rfl ?_
  refine w_istore_n (q := 9) (L' := [some (.ref 93), some (w_i a1), some (w_i (I 97 2 + 1)), none, none, none, none]) (M' := []) rfl rfl rfl rfl rfl ?_
  refine w_sipush (q := 12) rfl rfl rfl ?_
  refine w_iconst (q := 13) rfl rfl ?_
  refine w_aload_n (q := 14) rfl rfl rfl ?_
  refine w_gfr (q := 17) rfl rfl rfl rfl (j := 96) rfl ?_
  refine w_iload_n (q := 18) rfl rfl rfl ?_
  obtain ⟨h1, k⟩ := k
  refine w_iald (q := 19) (n := 24) (v := I 96 a1) rfl rfl rfl rfl rfl rfl h1 ?_
  refine w_ishl (q := 20) rfl rfl ?_
  refine w_iadd (q := 21) rfl rfl ?_
  refine w_istore_n (q := 22) (L' := [some (.ref 93), some (w_i a1), some (w_i (I 97 2 + 1)), some (w_i (4096 + w_shl 1 (I 96 a1))), none, none, none]) (M' := []) rfl rfl rfl rfl rfl ?_
  refine w_aload_n (q := 23) rfl rfl rfl ?_
  refine w_gfr (q := 26) rfl rfl rfl rfl (j := 99) rfl ?_
  refine w_ldc (q := 28) (n := 1073741824) rfl rfl rfl ?_
  refine w_call (q := 31) rfl rfl rfl rfl rfl ?_
  exact k
theorem b110_31f {xs : Nat → Int32} {xl : Nat} {I J : w_I} {Q : Option Value → w_I → w_I → Bool → Prop} {l1 l2 l3 : Int} {u4 u5 u6 : Option Value} (k : w_T xs xl 110 34 [some (.ref 93), some (w_i l1), some (w_i l2), some (w_i l3), some (w_i 0), u5, u6] [] [] I J false Q) : w_T xs xl 110 31 [some (.ref 93), some (w_i l1), some (w_i l2), some (w_i l3), u4, u5, u6] [] [] I J false Q := by
  refine w_iconst (q := 32) rfl rfl ?_
  refine w_istore (q := 34) (L' := [some (.ref 93), some (w_i l1), some (w_i l2), some (w_i l3), some (w_i 0), u5, u6]) (M' := []) rfl rfl rfl rfl rfl ?_
  exact k
theorem b110_34f {xs : Nat → Int32} {xl : Nat} {I J : w_I} {Q : Option Value → w_I → w_I → Bool → Prop} {l1 l2 l3 l4 : Int} {u5 u6 : Option Value} (k : ((-2147483648 ≤ l4 ∧ l4 < 2147483648) ∧ (-2147483648 ≤ I 97 1 ∧ I 97 1 < 2147483648) ∧ ((I 97 1 < l4 → w_T xs xl 110 241 [some (.ref 93), some (w_i l1), some (w_i l2), some (w_i l3), some (w_i l4), u5, u6] [] [] I J false Q) ∧ (¬ I 97 1 < l4 → w_T xs xl 110 48 [some (.ref 93), some (w_i l1), some (w_i l2), some (w_i l3), some (w_i l4), some (w_i 0), u6] [] [] I J false Q)))) : w_T xs xl 110 34 [some (.ref 93), some (w_i l1), some (w_i l2), some (w_i l3), some (w_i l4), u5, u6] [] [] I J false Q := by
  refine w_iload (q := 36) rfl rfl rfl ?_
  refine w_aload_n (q := 37) rfl rfl rfl ?_
  refine w_gfr (q := 40) rfl rfl rfl rfl (j := 97) rfl ?_
  refine w_iconst (q := 41) rfl rfl ?_
  refine w_iald (q := 42) (n := 3) (v := I 97 1) rfl rfl rfl rfl rfl rfl (by decide) ?_
  obtain ⟨h1, h2, k⟩ := k
  refine w_cgt (t := 241) (q := 45) rfl rfl rfl h1 h2 (fun c3 => ?_) (fun c3 => ?_)
  · replace k := k.1 c3
    exact k
  · replace k := k.2 c3
    refine w_iconst (q := 46) rfl rfl ?_
    refine w_istore (q := 48) (L' := [some (.ref 93), some (w_i l1), some (w_i l2), some (w_i l3), some (w_i l4), some (w_i 0), u6]) (M' := []) rfl rfl rfl rfl rfl ?_
    exact k
theorem b110_48f {xs : Nat → Int32} {xl : Nat} {I J : w_I} {Q : Option Value → w_I → w_I → Bool → Prop} {l1 l2 l3 l4 l5 : Int} {u6 : Option Value} (k : ((-2147483648 ≤ l5 ∧ l5 < 2147483648) ∧ (-2147483648 ≤ l2 ∧ l2 < 2147483648) ∧ ((l2 ≤ l5 → w_T xs xl 110 34 [some (.ref 93), some (w_i l1), some (w_i l2), some (w_i l3), some (w_i (l4 + 1)), some (w_i l5), u6] [] [] I J false Q) ∧ (¬ l2 ≤ l5 → ((0 ≤ l4 * l2 + l5 ∧ l4 * l2 + l5 < 169) ∧ ((-2147483648 ≤ I 98 (l4 * l2 + l5) ∧ I 98 (l4 * l2 + l5) < 2147483648) ∧ ((1073741824 ≤ I 98 (l4 * l2 + l5) → w_T xs xl 110 48 [some (.ref 93), some (w_i l1), some (w_i l2), some (w_i l3), some (w_i l4), some (w_i (l5 + 1)), some (w_i (I 98 (l4 * l2 + l5)))] [] [] I J false Q) ∧ (¬ 1073741824 ≤ I 98 (l4 * l2 + l5) → ((-2147483648 ≤ l4 ∧ l4 < 2147483648) ∧ (-2147483648 ≤ I 97 1 ∧ I 97 1 < 2147483648) ∧ ((I 97 1 ≤ l4 → ((-2147483648 ≤ I 97 2 ∧ I 97 2 < 2147483648) ∧ ((I 97 2 ≤ l5 → ((0 ≤ l1 ∧ l1 < 24) ∧ ((-2147483648 ≤ I 3 l1 ∧ I 3 l1 < 2147483648) ∧ ((¬ I 3 l1 = 1 → ((¬ I 3 l1 = 2 → w_T xs xl 110 48 [some (.ref 93), some (w_i l1), some (w_i l2), some (w_i l3), some (w_i l4), some (w_i (l5 + 1)), some (w_i (I 98 (l4 * l2 + l5)))] [] [] I J false Q) ∧ (I 3 l1 = 2 → ((-2147483648 ≤ I 95 l1 ∧ I 95 l1 < 2147483648) ∧ ((I 95 l1 < l5 → w_T xs xl 110 48 [some (.ref 93), some (w_i l1), some (w_i l2), some (w_i l3), some (w_i l4), some (w_i (l5 + 1)), some (w_i (I 98 (l4 * l2 + l5)))] [] [] I J false Q) ∧ (¬ I 95 l1 < l5 → w_C xs xl 111 [.ref 93, w_i (l4 * l2 + I 95 l1 + 1), w_i (I 98 (l4 * l2 + l5))] I J false (fun v Ic Jc bc => w_T xs xl 110 229 [some (.ref 93), some (w_i l1), some (w_i l2), some (w_i l3), some (w_i l4), some (w_i l5), some (w_i (I 98 (l4 * l2 + l5)))] [] (w_pv v []) Ic Jc bc Q))))))) ∧ (I 3 l1 = 1 → ((-2147483648 ≤ I 95 l1 ∧ I 95 l1 < 2147483648) ∧ ((I 95 l1 < l4 → ((¬ I 3 l1 = 2 → w_T xs xl 110 48 [some (.ref 93), some (w_i l1), some (w_i l2), some (w_i l3), some (w_i l4), some (w_i (l5 + 1)), some (w_i (I 98 (l4 * l2 + l5)))] [] [] I J false Q) ∧ (I 3 l1 = 2 → ((I 95 l1 < l5 → w_T xs xl 110 48 [some (.ref 93), some (w_i l1), some (w_i l2), some (w_i l3), some (w_i l4), some (w_i (l5 + 1)), some (w_i (I 98 (l4 * l2 + l5)))] [] [] I J false Q) ∧ (¬ I 95 l1 < l5 → w_C xs xl 111 [.ref 93, w_i (l4 * l2 + I 95 l1 + 1), w_i (I 98 (l4 * l2 + l5))] I J false (fun v Ic Jc bc => w_T xs xl 110 229 [some (.ref 93), some (w_i l1), some (w_i l2), some (w_i l3), some (w_i l4), some (w_i l5), some (w_i (I 98 (l4 * l2 + l5)))] [] (w_pv v []) Ic Jc bc Q)))))) ∧ (¬ I 95 l1 < l4 → w_C xs xl 111 [.ref 93, w_i ((I 95 l1 + 1) * l2 + l5), w_i (I 98 (l4 * l2 + l5) + l3)] I J false (fun v Ic Jc bc => w_T xs xl 110 183 [some (.ref 93), some (w_i l1), some (w_i l2), some (w_i l3), some (w_i l4), some (w_i l5), some (w_i (I 98 (l4 * l2 + l5)))] [] (w_pv v []) Ic Jc bc Q))))))))) ∧ (¬ I 97 2 ≤ l5 → w_C xs xl 111 [.ref 93, w_i (l4 * l2 + l5 + 1), w_i (I 98 (l4 * l2 + l5) + 65536)] I J false (fun v Ic Jc bc => w_T xs xl 110 135 [some (.ref 93), some (w_i l1), some (w_i l2), some (w_i l3), some (w_i l4), some (w_i l5), some (w_i (I 98 (l4 * l2 + l5)))] [] (w_pv v []) Ic Jc bc Q))))) ∧ (¬ I 97 1 ≤ l4 → w_C xs xl 111 [.ref 93, w_i ((l4 + 1) * l2 + l5), w_i (I 98 (l4 * l2 + l5) + l3 + 65536)] I J false (fun v Ic Jc bc => w_T xs xl 110 106 [some (.ref 93), some (w_i l1), some (w_i l2), some (w_i l3), some (w_i l4), some (w_i l5), some (w_i (I 98 (l4 * l2 + l5)))] [] (w_pv v []) Ic Jc bc Q)))))))))))) : w_T xs xl 110 48 [some (.ref 93), some (w_i l1), some (w_i l2), some (w_i l3), some (w_i l4), some (w_i l5), u6] [] [] I J false Q := by
  refine w_iload (q := 50) rfl rfl rfl ?_
  refine w_iload_n (q := 51) rfl rfl rfl ?_
  obtain ⟨h1, h2, k⟩ := k
  refine w_cge (t := 235) (q := 54) rfl rfl rfl h1 h2 (fun c3 => ?_) (fun c3 => ?_)
  · replace k := k.1 c3
    refine w_iinc (q := 238) (L' := [some (.ref 93), some (w_i l1), some (w_i l2), some (w_i l3), some (w_i (l4 + 1)), some (w_i l5), u6]) (M' := []) rfl rfl rfl rfl rfl rfl ?_
    refine w_goto (t := 34) rfl rfl ?_
    exact k
  · replace k := k.2 c3
    refine w_aload_n (q := 55) rfl rfl rfl ?_
    refine w_gfr (q := 58) rfl rfl rfl rfl (j := 98) rfl ?_
    refine w_iload (q := 60) rfl rfl rfl ?_
    refine w_iload_n (q := 61) rfl rfl rfl ?_
    refine w_imul (q := 62) rfl rfl ?_
    refine w_iload (q := 64) rfl rfl rfl ?_
    refine w_iadd (q := 65) rfl rfl ?_
    obtain ⟨h4, k⟩ := k
    refine w_iald (q := 66) (n := 169) (v := I 98 (l4 * l2 + l5)) rfl rfl rfl rfl rfl rfl h4 ?_
    refine w_istore (q := 68) (L' := [some (.ref 93), some (w_i l1), some (w_i l2), some (w_i l3), some (w_i l4), some (w_i l5), some (w_i (I 98 (l4 * l2 + l5)))]) (M' := []) rfl rfl rfl rfl rfl ?_
    refine w_iload (q := 70) rfl rfl rfl ?_
    refine w_ldc (q := 72) (n := 1073741824) rfl rfl rfl ?_
    obtain ⟨h5, k⟩ := k
    refine w_cge (t := 229) (q := 75) rfl rfl rfl h5 (by decide) (fun c6 => ?_) (fun c6 => ?_)
    · replace k := k.1 c6
      refine w_iinc (q := 232) (L' := [some (.ref 93), some (w_i l1), some (w_i l2), some (w_i l3), some (w_i l4), some (w_i (l5 + 1)), some (w_i (I 98 (l4 * l2 + l5)))]) (M' := []) rfl rfl rfl rfl rfl rfl ?_
      refine w_goto (t := 48) rfl rfl ?_
      exact k
    · replace k := k.2 c6
      refine w_iload (q := 77) rfl rfl rfl ?_
      refine w_aload_n (q := 78) rfl rfl rfl ?_
      refine w_gfr (q := 81) rfl rfl rfl rfl (j := 97) rfl ?_
      refine w_iconst (q := 82) rfl rfl ?_
      refine w_iald (q := 83) (n := 3) (v := I 97 1) rfl rfl rfl rfl rfl rfl (by decide) ?_
      obtain ⟨h7, h8, k⟩ := k
      refine w_cge (t := 106) (q := 86) rfl rfl rfl h7 h8 (fun c9 => ?_) (fun c9 => ?_)
      · replace k := k.1 c9
        refine w_iload (q := 108) rfl rfl rfl ?_
        refine w_aload_n (q := 109) rfl rfl rfl ?_
        refine w_gfr (q := 112) rfl rfl rfl rfl (j := 97) rfl ?_
        refine w_iconst (q := 113) rfl rfl ?_
        refine w_iald (q := 114) (n := 3) (v := I 97 2) rfl rfl rfl rfl rfl rfl (by decide) ?_
        obtain ⟨h10, k⟩ := k
        refine w_cge (t := 135) (q := 117) rfl rfl rfl h1 h10 (fun c11 => ?_) (fun c11 => ?_)
        · replace k := k.1 c11
          refine w_aload_n (q := 136) rfl rfl rfl ?_
          refine w_gfr (q := 139) rfl rfl rfl rfl (j := 78) rfl ?_
          refine w_gfr (q := 142) rfl rfl rfl rfl (j := 2) rfl ?_
          refine w_gfr (q := 145) rfl rfl rfl rfl (j := 3) rfl ?_
          refine w_iload_n (q := 146) rfl rfl rfl ?_
          obtain ⟨h12, k⟩ := k
          refine w_iald (q := 147) (n := 24) (v := I 3 l1) rfl rfl rfl rfl rfl rfl h12 ?_
          refine w_iconst (q := 148) rfl rfl ?_
          obtain ⟨h13, k⟩ := k
          refine w_cne (t := 183) (q := 151) rfl rfl rfl h13 (by decide) (fun c14 => ?_) (fun c14 => ?_)
          · replace k := k.1 c14
            refine w_aload_n (q := 184) rfl rfl rfl ?_
            refine w_gfr (q := 187) rfl rfl rfl rfl (j := 78) rfl ?_
            refine w_gfr (q := 190) rfl rfl rfl rfl (j := 2) rfl ?_
            refine w_gfr (q := 193) rfl rfl rfl rfl (j := 3) rfl ?_
            refine w_iload_n (q := 194) rfl rfl rfl ?_
            refine w_iald (q := 195) (n := 24) (v := I 3 l1) rfl rfl rfl rfl rfl rfl h12 ?_
            refine w_iconst (q := 196) rfl rfl ?_
            refine w_cne (t := 229) (q := 199) rfl rfl rfl h13 (by decide) (fun c15 => ?_) (fun c15 => ?_)
            · replace k := k.1 c15
              refine w_iinc (q := 232) (L' := [some (.ref 93), some (w_i l1), some (w_i l2), some (w_i l3), some (w_i l4), some (w_i (l5 + 1)), some (w_i (I 98 (l4 * l2 + l5)))]) (M' := []) rfl rfl rfl rfl rfl rfl ?_
              refine w_goto (t := 48) rfl rfl ?_
              exact k
            · replace k := k.2 c15
              refine w_aload_n (q := 200) rfl rfl rfl ?_
              refine w_gfr (q := 203) rfl rfl rfl rfl (j := 95) rfl ?_
              refine w_iload_n (q := 204) rfl rfl rfl ?_
              refine w_iald (q := 205) (n := 24) (v := I 95 l1) rfl rfl rfl rfl rfl rfl h12 ?_
              refine w_iload (q := 207) rfl rfl rfl ?_
              obtain ⟨h16, k⟩ := k
              refine w_clt (t := 229) (q := 210) rfl rfl rfl h16 h1 (fun c17 => ?_) (fun c17 => ?_)
              · replace k := k.1 c17
                refine w_iinc (q := 232) (L' := [some (.ref 93), some (w_i l1), some (w_i l2), some (w_i l3), some (w_i l4), some (w_i (l5 + 1)), some (w_i (I 98 (l4 * l2 + l5)))]) (M' := []) rfl rfl rfl rfl rfl rfl ?_
                refine w_goto (t := 48) rfl rfl ?_
                exact k
              · replace k := k.2 c17
                refine w_aload_n (q := 211) rfl rfl rfl ?_
                refine w_iload (q := 213) rfl rfl rfl ?_
                refine w_iload_n (q := 214) rfl rfl rfl ?_
                refine w_imul (q := 215) rfl rfl ?_
                refine w_aload_n (q := 216) rfl rfl rfl ?_
                refine w_gfr (q := 219) rfl rfl rfl rfl (j := 95) rfl ?_
                refine w_iload_n (q := 220) rfl rfl rfl ?_
                refine w_iald (q := 221) (n := 24) (v := I 95 l1) rfl rfl rfl rfl rfl rfl h12 ?_
                refine w_iadd (q := 222) rfl rfl ?_
                refine w_iconst (q := 223) rfl rfl ?_
                refine w_iadd (q := 224) rfl rfl ?_
                refine w_iload (q := 226) rfl rfl rfl ?_
                refine w_callv (q := 229) rfl rfl rfl rfl rfl rfl ?_
                exact k
          · replace k := k.2 c14
            refine w_aload_n (q := 152) rfl rfl rfl ?_
            refine w_gfr (q := 155) rfl rfl rfl rfl (j := 95) rfl ?_
            refine w_iload_n (q := 156) rfl rfl rfl ?_
            refine w_iald (q := 157) (n := 24) (v := I 95 l1) rfl rfl rfl rfl rfl rfl h12 ?_
            refine w_iload (q := 159) rfl rfl rfl ?_
            obtain ⟨h18, k⟩ := k
            refine w_clt (t := 183) (q := 162) rfl rfl rfl h18 h7 (fun c19 => ?_) (fun c19 => ?_)
            · replace k := k.1 c19
              refine w_aload_n (q := 184) rfl rfl rfl ?_
              refine w_gfr (q := 187) rfl rfl rfl rfl (j := 78) rfl ?_
              refine w_gfr (q := 190) rfl rfl rfl rfl (j := 2) rfl ?_
              refine w_gfr (q := 193) rfl rfl rfl rfl (j := 3) rfl ?_
              refine w_iload_n (q := 194) rfl rfl rfl ?_
              refine w_iald (q := 195) (n := 24) (v := I 3 l1) rfl rfl rfl rfl rfl rfl h12 ?_
              refine w_iconst (q := 196) rfl rfl ?_
              refine w_cne (t := 229) (q := 199) rfl rfl rfl h13 (by decide) (fun c20 => ?_) (fun c20 => ?_)
              · replace k := k.1 c20
                refine w_iinc (q := 232) (L' := [some (.ref 93), some (w_i l1), some (w_i l2), some (w_i l3), some (w_i l4), some (w_i (l5 + 1)), some (w_i (I 98 (l4 * l2 + l5)))]) (M' := []) rfl rfl rfl rfl rfl rfl ?_
                refine w_goto (t := 48) rfl rfl ?_
                exact k
              · replace k := k.2 c20
                refine w_aload_n (q := 200) rfl rfl rfl ?_
                refine w_gfr (q := 203) rfl rfl rfl rfl (j := 95) rfl ?_
                refine w_iload_n (q := 204) rfl rfl rfl ?_
                refine w_iald (q := 205) (n := 24) (v := I 95 l1) rfl rfl rfl rfl rfl rfl h12 ?_
                refine w_iload (q := 207) rfl rfl rfl ?_
                refine w_clt (t := 229) (q := 210) rfl rfl rfl h18 h1 (fun c21 => ?_) (fun c21 => ?_)
                · replace k := k.1 c21
                  refine w_iinc (q := 232) (L' := [some (.ref 93), some (w_i l1), some (w_i l2), some (w_i l3), some (w_i l4), some (w_i (l5 + 1)), some (w_i (I 98 (l4 * l2 + l5)))]) (M' := []) rfl rfl rfl rfl rfl rfl ?_
                  refine w_goto (t := 48) rfl rfl ?_
                  exact k
                · replace k := k.2 c21
                  refine w_aload_n (q := 211) rfl rfl rfl ?_
                  refine w_iload (q := 213) rfl rfl rfl ?_
                  refine w_iload_n (q := 214) rfl rfl rfl ?_
                  refine w_imul (q := 215) rfl rfl ?_
                  refine w_aload_n (q := 216) rfl rfl rfl ?_
                  refine w_gfr (q := 219) rfl rfl rfl rfl (j := 95) rfl ?_
                  refine w_iload_n (q := 220) rfl rfl rfl ?_
                  refine w_iald (q := 221) (n := 24) (v := I 95 l1) rfl rfl rfl rfl rfl rfl h12 ?_
                  refine w_iadd (q := 222) rfl rfl ?_
                  refine w_iconst (q := 223) rfl rfl ?_
                  refine w_iadd (q := 224) rfl rfl ?_
                  refine w_iload (q := 226) rfl rfl rfl ?_
                  refine w_callv (q := 229) rfl rfl rfl rfl rfl rfl ?_
                  exact k
            · replace k := k.2 c19
              refine w_aload_n (q := 163) rfl rfl rfl ?_
              refine w_aload_n (q := 164) rfl rfl rfl ?_
              refine w_gfr (q := 167) rfl rfl rfl rfl (j := 95) rfl ?_
              refine w_iload_n (q := 168) rfl rfl rfl ?_
              refine w_iald (q := 169) (n := 24) (v := I 95 l1) rfl rfl rfl rfl rfl rfl h12 ?_
              refine w_iconst (q := 170) rfl rfl ?_
              refine w_iadd (q := 171) rfl rfl ?_
              refine w_iload_n (q := 172) rfl rfl rfl ?_
              refine w_imul (q := 173) rfl rfl ?_
              refine w_iload (q := 175) rfl rfl rfl ?_
              refine w_iadd (q := 176) rfl rfl ?_
              refine w_iload (q := 178) rfl rfl rfl ?_
              refine w_iload_n (q := 179) rfl rfl rfl ?_
              refine w_iadd (q := 180) rfl rfl ?_
              refine w_callv (q := 183) rfl rfl rfl rfl rfl rfl ?_
              exact k
        · replace k := k.2 c11
          refine w_aload_n (q := 118) rfl rfl rfl ?_
          refine w_iload (q := 120) rfl rfl rfl ?_
          refine w_iload_n (q := 121) rfl rfl rfl ?_
          refine w_imul (q := 122) rfl rfl ?_
          refine w_iload (q := 124) rfl rfl rfl ?_
          refine w_iadd (q := 125) rfl rfl ?_
          refine w_iconst (q := 126) rfl rfl ?_
          refine w_iadd (q := 127) rfl rfl ?_
          refine w_iload (q := 129) rfl rfl rfl ?_
          refine w_ldc (q := 131) (n := 65536) rfl rfl rfl ?_
          refine w_iadd (q := 132) rfl rfl ?_
          refine w_callv (q := 135) rfl rfl rfl rfl rfl rfl ?_
          exact k
      · replace k := k.2 c9
        refine w_aload_n (q := 87) rfl rfl rfl ?_
        refine w_iload (q := 89) rfl rfl rfl ?_
        refine w_iconst (q := 90) rfl rfl ?_
        refine w_iadd (q := 91) rfl rfl ?_
        refine w_iload_n (q := 92) rfl rfl rfl ?_
        refine w_imul (q := 93) rfl rfl ?_
        refine w_iload (q := 95) rfl rfl rfl ?_
        refine w_iadd (q := 96) rfl rfl ?_
        refine w_iload (q := 98) rfl rfl rfl ?_
        refine w_iload_n (q := 99) rfl rfl rfl ?_
        refine w_iadd (q := 100) rfl rfl ?_
        refine w_ldc (q := 102) (n := 65536) rfl rfl rfl ?_
        refine w_iadd (q := 103) rfl rfl ?_
        refine w_callv (q := 106) rfl rfl rfl rfl rfl rfl ?_
        exact k
theorem b110_229f {xs : Nat → Int32} {xl : Nat} {I J : w_I} {Q : Option Value → w_I → w_I → Bool → Prop} {l1 l2 l3 l4 l5 : Int} {u6 : Option Value} (k : w_T xs xl 110 48 [some (.ref 93), some (w_i l1), some (w_i l2), some (w_i l3), some (w_i l4), some (w_i (l5 + 1)), u6] [] [] I J false Q) : w_T xs xl 110 229 [some (.ref 93), some (w_i l1), some (w_i l2), some (w_i l3), some (w_i l4), some (w_i l5), u6] [] [] I J false Q := by
  refine w_iinc (q := 232) (L' := [some (.ref 93), some (w_i l1), some (w_i l2), some (w_i l3), some (w_i l4), some (w_i (l5 + 1)), u6]) (M' := []) rfl rfl rfl rfl rfl rfl ?_
  refine w_goto (t := 48) rfl rfl ?_
  exact k
theorem b110_183f {xs : Nat → Int32} {xl : Nat} {I J : w_I} {Q : Option Value → w_I → w_I → Bool → Prop} {l1 l2 l3 l4 l5 l6 : Int} (k : ((0 ≤ l1 ∧ l1 < 24) ∧ ((-2147483648 ≤ I 3 l1 ∧ I 3 l1 < 2147483648) ∧ ((¬ I 3 l1 = 2 → w_T xs xl 110 48 [some (.ref 93), some (w_i l1), some (w_i l2), some (w_i l3), some (w_i l4), some (w_i (l5 + 1)), some (w_i l6)] [] [] I J false Q) ∧ (I 3 l1 = 2 → ((-2147483648 ≤ I 95 l1 ∧ I 95 l1 < 2147483648) ∧ (-2147483648 ≤ l5 ∧ l5 < 2147483648) ∧ ((I 95 l1 < l5 → w_T xs xl 110 48 [some (.ref 93), some (w_i l1), some (w_i l2), some (w_i l3), some (w_i l4), some (w_i (l5 + 1)), some (w_i l6)] [] [] I J false Q) ∧ (¬ I 95 l1 < l5 → w_C xs xl 111 [.ref 93, w_i (l4 * l2 + I 95 l1 + 1), w_i l6] I J false (fun v Ic Jc bc => w_T xs xl 110 229 [some (.ref 93), some (w_i l1), some (w_i l2), some (w_i l3), some (w_i l4), some (w_i l5), some (w_i l6)] [] (w_pv v []) Ic Jc bc Q))))))))) : w_T xs xl 110 183 [some (.ref 93), some (w_i l1), some (w_i l2), some (w_i l3), some (w_i l4), some (w_i l5), some (w_i l6)] [] [] I J false Q := by
  refine w_aload_n (q := 184) rfl rfl rfl ?_
  refine w_gfr (q := 187) rfl rfl rfl rfl (j := 78) rfl ?_
  refine w_gfr (q := 190) rfl rfl rfl rfl (j := 2) rfl ?_
  refine w_gfr (q := 193) rfl rfl rfl rfl (j := 3) rfl ?_
  refine w_iload_n (q := 194) rfl rfl rfl ?_
  obtain ⟨h1, k⟩ := k
  refine w_iald (q := 195) (n := 24) (v := I 3 l1) rfl rfl rfl rfl rfl rfl h1 ?_
  refine w_iconst (q := 196) rfl rfl ?_
  obtain ⟨h2, k⟩ := k
  refine w_cne (t := 229) (q := 199) rfl rfl rfl h2 (by decide) (fun c3 => ?_) (fun c3 => ?_)
  · replace k := k.1 c3
    refine w_iinc (q := 232) (L' := [some (.ref 93), some (w_i l1), some (w_i l2), some (w_i l3), some (w_i l4), some (w_i (l5 + 1)), some (w_i l6)]) (M' := []) rfl rfl rfl rfl rfl rfl ?_
    refine w_goto (t := 48) rfl rfl ?_
    exact k
  · replace k := k.2 c3
    refine w_aload_n (q := 200) rfl rfl rfl ?_
    refine w_gfr (q := 203) rfl rfl rfl rfl (j := 95) rfl ?_
    refine w_iload_n (q := 204) rfl rfl rfl ?_
    refine w_iald (q := 205) (n := 24) (v := I 95 l1) rfl rfl rfl rfl rfl rfl h1 ?_
    refine w_iload (q := 207) rfl rfl rfl ?_
    obtain ⟨h4, h5, k⟩ := k
    refine w_clt (t := 229) (q := 210) rfl rfl rfl h4 h5 (fun c6 => ?_) (fun c6 => ?_)
    · replace k := k.1 c6
      refine w_iinc (q := 232) (L' := [some (.ref 93), some (w_i l1), some (w_i l2), some (w_i l3), some (w_i l4), some (w_i (l5 + 1)), some (w_i l6)]) (M' := []) rfl rfl rfl rfl rfl rfl ?_
      refine w_goto (t := 48) rfl rfl ?_
      exact k
    · replace k := k.2 c6
      refine w_aload_n (q := 211) rfl rfl rfl ?_
      refine w_iload (q := 213) rfl rfl rfl ?_
      refine w_iload_n (q := 214) rfl rfl rfl ?_
      refine w_imul (q := 215) rfl rfl ?_
      refine w_aload_n (q := 216) rfl rfl rfl ?_
      refine w_gfr (q := 219) rfl rfl rfl rfl (j := 95) rfl ?_
      refine w_iload_n (q := 220) rfl rfl rfl ?_
      refine w_iald (q := 221) (n := 24) (v := I 95 l1) rfl rfl rfl rfl rfl rfl h1 ?_
      refine w_iadd (q := 222) rfl rfl ?_
      refine w_iconst (q := 223) rfl rfl ?_
      refine w_iadd (q := 224) rfl rfl ?_
      refine w_iload (q := 226) rfl rfl rfl ?_
      refine w_callv (q := 229) rfl rfl rfl rfl rfl rfl ?_
      exact k
theorem b110_135f {xs : Nat → Int32} {xl : Nat} {I J : w_I} {Q : Option Value → w_I → w_I → Bool → Prop} {l1 l2 l3 l4 l5 l6 : Int} (k : ((0 ≤ l1 ∧ l1 < 24) ∧ ((-2147483648 ≤ I 3 l1 ∧ I 3 l1 < 2147483648) ∧ ((¬ I 3 l1 = 1 → ((¬ I 3 l1 = 2 → w_T xs xl 110 48 [some (.ref 93), some (w_i l1), some (w_i l2), some (w_i l3), some (w_i l4), some (w_i (l5 + 1)), some (w_i l6)] [] [] I J false Q) ∧ (I 3 l1 = 2 → ((-2147483648 ≤ I 95 l1 ∧ I 95 l1 < 2147483648) ∧ (-2147483648 ≤ l5 ∧ l5 < 2147483648) ∧ ((I 95 l1 < l5 → w_T xs xl 110 48 [some (.ref 93), some (w_i l1), some (w_i l2), some (w_i l3), some (w_i l4), some (w_i (l5 + 1)), some (w_i l6)] [] [] I J false Q) ∧ (¬ I 95 l1 < l5 → w_C xs xl 111 [.ref 93, w_i (l4 * l2 + I 95 l1 + 1), w_i l6] I J false (fun v Ic Jc bc => w_T xs xl 110 229 [some (.ref 93), some (w_i l1), some (w_i l2), some (w_i l3), some (w_i l4), some (w_i l5), some (w_i l6)] [] (w_pv v []) Ic Jc bc Q))))))) ∧ (I 3 l1 = 1 → ((-2147483648 ≤ I 95 l1 ∧ I 95 l1 < 2147483648) ∧ (-2147483648 ≤ l4 ∧ l4 < 2147483648) ∧ ((I 95 l1 < l4 → ((¬ I 3 l1 = 2 → w_T xs xl 110 48 [some (.ref 93), some (w_i l1), some (w_i l2), some (w_i l3), some (w_i l4), some (w_i (l5 + 1)), some (w_i l6)] [] [] I J false Q) ∧ (I 3 l1 = 2 → ((-2147483648 ≤ l5 ∧ l5 < 2147483648) ∧ ((I 95 l1 < l5 → w_T xs xl 110 48 [some (.ref 93), some (w_i l1), some (w_i l2), some (w_i l3), some (w_i l4), some (w_i (l5 + 1)), some (w_i l6)] [] [] I J false Q) ∧ (¬ I 95 l1 < l5 → w_C xs xl 111 [.ref 93, w_i (l4 * l2 + I 95 l1 + 1), w_i l6] I J false (fun v Ic Jc bc => w_T xs xl 110 229 [some (.ref 93), some (w_i l1), some (w_i l2), some (w_i l3), some (w_i l4), some (w_i l5), some (w_i l6)] [] (w_pv v []) Ic Jc bc Q))))))) ∧ (¬ I 95 l1 < l4 → w_C xs xl 111 [.ref 93, w_i ((I 95 l1 + 1) * l2 + l5), w_i (l6 + l3)] I J false (fun v Ic Jc bc => w_T xs xl 110 183 [some (.ref 93), some (w_i l1), some (w_i l2), some (w_i l3), some (w_i l4), some (w_i l5), some (w_i l6)] [] (w_pv v []) Ic Jc bc Q))))))))) : w_T xs xl 110 135 [some (.ref 93), some (w_i l1), some (w_i l2), some (w_i l3), some (w_i l4), some (w_i l5), some (w_i l6)] [] [] I J false Q := by
  refine w_aload_n (q := 136) rfl rfl rfl ?_
  refine w_gfr (q := 139) rfl rfl rfl rfl (j := 78) rfl ?_
  refine w_gfr (q := 142) rfl rfl rfl rfl (j := 2) rfl ?_
  refine w_gfr (q := 145) rfl rfl rfl rfl (j := 3) rfl ?_
  refine w_iload_n (q := 146) rfl rfl rfl ?_
  obtain ⟨h1, k⟩ := k
  refine w_iald (q := 147) (n := 24) (v := I 3 l1) rfl rfl rfl rfl rfl rfl h1 ?_
  refine w_iconst (q := 148) rfl rfl ?_
  obtain ⟨h2, k⟩ := k
  refine w_cne (t := 183) (q := 151) rfl rfl rfl h2 (by decide) (fun c3 => ?_) (fun c3 => ?_)
  · replace k := k.1 c3
    refine w_aload_n (q := 184) rfl rfl rfl ?_
    refine w_gfr (q := 187) rfl rfl rfl rfl (j := 78) rfl ?_
    refine w_gfr (q := 190) rfl rfl rfl rfl (j := 2) rfl ?_
    refine w_gfr (q := 193) rfl rfl rfl rfl (j := 3) rfl ?_
    refine w_iload_n (q := 194) rfl rfl rfl ?_
    refine w_iald (q := 195) (n := 24) (v := I 3 l1) rfl rfl rfl rfl rfl rfl h1 ?_
    refine w_iconst (q := 196) rfl rfl ?_
    refine w_cne (t := 229) (q := 199) rfl rfl rfl h2 (by decide) (fun c4 => ?_) (fun c4 => ?_)
    · replace k := k.1 c4
      refine w_iinc (q := 232) (L' := [some (.ref 93), some (w_i l1), some (w_i l2), some (w_i l3), some (w_i l4), some (w_i (l5 + 1)), some (w_i l6)]) (M' := []) rfl rfl rfl rfl rfl rfl ?_
      refine w_goto (t := 48) rfl rfl ?_
      exact k
    · replace k := k.2 c4
      refine w_aload_n (q := 200) rfl rfl rfl ?_
      refine w_gfr (q := 203) rfl rfl rfl rfl (j := 95) rfl ?_
      refine w_iload_n (q := 204) rfl rfl rfl ?_
      refine w_iald (q := 205) (n := 24) (v := I 95 l1) rfl rfl rfl rfl rfl rfl h1 ?_
      refine w_iload (q := 207) rfl rfl rfl ?_
      obtain ⟨h5, h6, k⟩ := k
      refine w_clt (t := 229) (q := 210) rfl rfl rfl h5 h6 (fun c7 => ?_) (fun c7 => ?_)
      · replace k := k.1 c7
        refine w_iinc (q := 232) (L' := [some (.ref 93), some (w_i l1), some (w_i l2), some (w_i l3), some (w_i l4), some (w_i (l5 + 1)), some (w_i l6)]) (M' := []) rfl rfl rfl rfl rfl rfl ?_
        refine w_goto (t := 48) rfl rfl ?_
        exact k
      · replace k := k.2 c7
        refine w_aload_n (q := 211) rfl rfl rfl ?_
        refine w_iload (q := 213) rfl rfl rfl ?_
        refine w_iload_n (q := 214) rfl rfl rfl ?_
        refine w_imul (q := 215) rfl rfl ?_
        refine w_aload_n (q := 216) rfl rfl rfl ?_
        refine w_gfr (q := 219) rfl rfl rfl rfl (j := 95) rfl ?_
        refine w_iload_n (q := 220) rfl rfl rfl ?_
        refine w_iald (q := 221) (n := 24) (v := I 95 l1) rfl rfl rfl rfl rfl rfl h1 ?_
        refine w_iadd (q := 222) rfl rfl ?_
        refine w_iconst (q := 223) rfl rfl ?_
        refine w_iadd (q := 224) rfl rfl ?_
        refine w_iload (q := 226) rfl rfl rfl ?_
        refine w_callv (q := 229) rfl rfl rfl rfl rfl rfl ?_
        exact k
  · replace k := k.2 c3
    refine w_aload_n (q := 152) rfl rfl rfl ?_
    refine w_gfr (q := 155) rfl rfl rfl rfl (j := 95) rfl ?_
    refine w_iload_n (q := 156) rfl rfl rfl ?_
    refine w_iald (q := 157) (n := 24) (v := I 95 l1) rfl rfl rfl rfl rfl rfl h1 ?_
    refine w_iload (q := 159) rfl rfl rfl ?_
    obtain ⟨h8, h9, k⟩ := k
    refine w_clt (t := 183) (q := 162) rfl rfl rfl h8 h9 (fun c10 => ?_) (fun c10 => ?_)
    · replace k := k.1 c10
      refine w_aload_n (q := 184) rfl rfl rfl ?_
      refine w_gfr (q := 187) rfl rfl rfl rfl (j := 78) rfl ?_
      refine w_gfr (q := 190) rfl rfl rfl rfl (j := 2) rfl ?_
      refine w_gfr (q := 193) rfl rfl rfl rfl (j := 3) rfl ?_
      refine w_iload_n (q := 194) rfl rfl rfl ?_
      refine w_iald (q := 195) (n := 24) (v := I 3 l1) rfl rfl rfl rfl rfl rfl h1 ?_
      refine w_iconst (q := 196) rfl rfl ?_
      refine w_cne (t := 229) (q := 199) rfl rfl rfl h2 (by decide) (fun c11 => ?_) (fun c11 => ?_)
      · replace k := k.1 c11
        refine w_iinc (q := 232) (L' := [some (.ref 93), some (w_i l1), some (w_i l2), some (w_i l3), some (w_i l4), some (w_i (l5 + 1)), some (w_i l6)]) (M' := []) rfl rfl rfl rfl rfl rfl ?_
        refine w_goto (t := 48) rfl rfl ?_
        exact k
      · replace k := k.2 c11
        refine w_aload_n (q := 200) rfl rfl rfl ?_
        refine w_gfr (q := 203) rfl rfl rfl rfl (j := 95) rfl ?_
        refine w_iload_n (q := 204) rfl rfl rfl ?_
        refine w_iald (q := 205) (n := 24) (v := I 95 l1) rfl rfl rfl rfl rfl rfl h1 ?_
        refine w_iload (q := 207) rfl rfl rfl ?_
        obtain ⟨h12, k⟩ := k
        refine w_clt (t := 229) (q := 210) rfl rfl rfl h8 h12 (fun c13 => ?_) (fun c13 => ?_)
        · replace k := k.1 c13
          refine w_iinc (q := 232) (L' := [some (.ref 93), some (w_i l1), some (w_i l2), some (w_i l3), some (w_i l4), some (w_i (l5 + 1)), some (w_i l6)]) (M' := []) rfl rfl rfl rfl rfl rfl ?_
          refine w_goto (t := 48) rfl rfl ?_
          exact k
        · replace k := k.2 c13
          refine w_aload_n (q := 211) rfl rfl rfl ?_
          refine w_iload (q := 213) rfl rfl rfl ?_
          refine w_iload_n (q := 214) rfl rfl rfl ?_
          refine w_imul (q := 215) rfl rfl ?_
          refine w_aload_n (q := 216) rfl rfl rfl ?_
          refine w_gfr (q := 219) rfl rfl rfl rfl (j := 95) rfl ?_
          refine w_iload_n (q := 220) rfl rfl rfl ?_
          refine w_iald (q := 221) (n := 24) (v := I 95 l1) rfl rfl rfl rfl rfl rfl h1 ?_
          refine w_iadd (q := 222) rfl rfl ?_
          refine w_iconst (q := 223) rfl rfl ?_
          refine w_iadd (q := 224) rfl rfl ?_
          refine w_iload (q := 226) rfl rfl rfl ?_
          refine w_callv (q := 229) rfl rfl rfl rfl rfl rfl ?_
          exact k
    · replace k := k.2 c10
      refine w_aload_n (q := 163) rfl rfl rfl ?_
      refine w_aload_n (q := 164) rfl rfl rfl ?_
      refine w_gfr (q := 167) rfl rfl rfl rfl (j := 95) rfl ?_
      refine w_iload_n (q := 168) rfl rfl rfl ?_
      refine w_iald (q := 169) (n := 24) (v := I 95 l1) rfl rfl rfl rfl rfl rfl h1 ?_
      refine w_iconst (q := 170) rfl rfl ?_
      refine w_iadd (q := 171) rfl rfl ?_
      refine w_iload_n (q := 172) rfl rfl rfl ?_
      refine w_imul (q := 173) rfl rfl ?_
      refine w_iload (q := 175) rfl rfl rfl ?_
      refine w_iadd (q := 176) rfl rfl ?_
      refine w_iload (q := 178) rfl rfl rfl ?_
      refine w_iload_n (q := 179) rfl rfl rfl ?_
      refine w_iadd (q := 180) rfl rfl ?_
      refine w_callv (q := 183) rfl rfl rfl rfl rfl rfl ?_
      exact k
theorem b110_106f {xs : Nat → Int32} {xl : Nat} {I J : w_I} {Q : Option Value → w_I → w_I → Bool → Prop} {l1 l2 l3 l4 l5 l6 : Int} (k : ((-2147483648 ≤ l5 ∧ l5 < 2147483648) ∧ (-2147483648 ≤ I 97 2 ∧ I 97 2 < 2147483648) ∧ ((I 97 2 ≤ l5 → ((0 ≤ l1 ∧ l1 < 24) ∧ ((-2147483648 ≤ I 3 l1 ∧ I 3 l1 < 2147483648) ∧ ((¬ I 3 l1 = 1 → ((¬ I 3 l1 = 2 → w_T xs xl 110 48 [some (.ref 93), some (w_i l1), some (w_i l2), some (w_i l3), some (w_i l4), some (w_i (l5 + 1)), some (w_i l6)] [] [] I J false Q) ∧ (I 3 l1 = 2 → ((-2147483648 ≤ I 95 l1 ∧ I 95 l1 < 2147483648) ∧ ((I 95 l1 < l5 → w_T xs xl 110 48 [some (.ref 93), some (w_i l1), some (w_i l2), some (w_i l3), some (w_i l4), some (w_i (l5 + 1)), some (w_i l6)] [] [] I J false Q) ∧ (¬ I 95 l1 < l5 → w_C xs xl 111 [.ref 93, w_i (l4 * l2 + I 95 l1 + 1), w_i l6] I J false (fun v Ic Jc bc => w_T xs xl 110 229 [some (.ref 93), some (w_i l1), some (w_i l2), some (w_i l3), some (w_i l4), some (w_i l5), some (w_i l6)] [] (w_pv v []) Ic Jc bc Q))))))) ∧ (I 3 l1 = 1 → ((-2147483648 ≤ I 95 l1 ∧ I 95 l1 < 2147483648) ∧ (-2147483648 ≤ l4 ∧ l4 < 2147483648) ∧ ((I 95 l1 < l4 → ((¬ I 3 l1 = 2 → w_T xs xl 110 48 [some (.ref 93), some (w_i l1), some (w_i l2), some (w_i l3), some (w_i l4), some (w_i (l5 + 1)), some (w_i l6)] [] [] I J false Q) ∧ (I 3 l1 = 2 → ((I 95 l1 < l5 → w_T xs xl 110 48 [some (.ref 93), some (w_i l1), some (w_i l2), some (w_i l3), some (w_i l4), some (w_i (l5 + 1)), some (w_i l6)] [] [] I J false Q) ∧ (¬ I 95 l1 < l5 → w_C xs xl 111 [.ref 93, w_i (l4 * l2 + I 95 l1 + 1), w_i l6] I J false (fun v Ic Jc bc => w_T xs xl 110 229 [some (.ref 93), some (w_i l1), some (w_i l2), some (w_i l3), some (w_i l4), some (w_i l5), some (w_i l6)] [] (w_pv v []) Ic Jc bc Q)))))) ∧ (¬ I 95 l1 < l4 → w_C xs xl 111 [.ref 93, w_i ((I 95 l1 + 1) * l2 + l5), w_i (l6 + l3)] I J false (fun v Ic Jc bc => w_T xs xl 110 183 [some (.ref 93), some (w_i l1), some (w_i l2), some (w_i l3), some (w_i l4), some (w_i l5), some (w_i l6)] [] (w_pv v []) Ic Jc bc Q))))))))) ∧ (¬ I 97 2 ≤ l5 → w_C xs xl 111 [.ref 93, w_i (l4 * l2 + l5 + 1), w_i (l6 + 65536)] I J false (fun v Ic Jc bc => w_T xs xl 110 135 [some (.ref 93), some (w_i l1), some (w_i l2), some (w_i l3), some (w_i l4), some (w_i l5), some (w_i l6)] [] (w_pv v []) Ic Jc bc Q))))) : w_T xs xl 110 106 [some (.ref 93), some (w_i l1), some (w_i l2), some (w_i l3), some (w_i l4), some (w_i l5), some (w_i l6)] [] [] I J false Q := by
  refine w_iload (q := 108) rfl rfl rfl ?_
  refine w_aload_n (q := 109) rfl rfl rfl ?_
  refine w_gfr (q := 112) rfl rfl rfl rfl (j := 97) rfl ?_
  refine w_iconst (q := 113) rfl rfl ?_
  refine w_iald (q := 114) (n := 3) (v := I 97 2) rfl rfl rfl rfl rfl rfl (by decide) ?_
  obtain ⟨h1, h2, k⟩ := k
  refine w_cge (t := 135) (q := 117) rfl rfl rfl h1 h2 (fun c3 => ?_) (fun c3 => ?_)
  · replace k := k.1 c3
    refine w_aload_n (q := 136) rfl rfl rfl ?_
    refine w_gfr (q := 139) rfl rfl rfl rfl (j := 78) rfl ?_
    refine w_gfr (q := 142) rfl rfl rfl rfl (j := 2) rfl ?_
    refine w_gfr (q := 145) rfl rfl rfl rfl (j := 3) rfl ?_
    refine w_iload_n (q := 146) rfl rfl rfl ?_
    obtain ⟨h4, k⟩ := k
    refine w_iald (q := 147) (n := 24) (v := I 3 l1) rfl rfl rfl rfl rfl rfl h4 ?_
    refine w_iconst (q := 148) rfl rfl ?_
    obtain ⟨h5, k⟩ := k
    refine w_cne (t := 183) (q := 151) rfl rfl rfl h5 (by decide) (fun c6 => ?_) (fun c6 => ?_)
    · replace k := k.1 c6
      refine w_aload_n (q := 184) rfl rfl rfl ?_
      refine w_gfr (q := 187) rfl rfl rfl rfl (j := 78) rfl ?_
      refine w_gfr (q := 190) rfl rfl rfl rfl (j := 2) rfl ?_
      refine w_gfr (q := 193) rfl rfl rfl rfl (j := 3) rfl ?_
      refine w_iload_n (q := 194) rfl rfl rfl ?_
      refine w_iald (q := 195) (n := 24) (v := I 3 l1) rfl rfl rfl rfl rfl rfl h4 ?_
      refine w_iconst (q := 196) rfl rfl ?_
      refine w_cne (t := 229) (q := 199) rfl rfl rfl h5 (by decide) (fun c7 => ?_) (fun c7 => ?_)
      · replace k := k.1 c7
        refine w_iinc (q := 232) (L' := [some (.ref 93), some (w_i l1), some (w_i l2), some (w_i l3), some (w_i l4), some (w_i (l5 + 1)), some (w_i l6)]) (M' := []) rfl rfl rfl rfl rfl rfl ?_
        refine w_goto (t := 48) rfl rfl ?_
        exact k
      · replace k := k.2 c7
        refine w_aload_n (q := 200) rfl rfl rfl ?_
        refine w_gfr (q := 203) rfl rfl rfl rfl (j := 95) rfl ?_
        refine w_iload_n (q := 204) rfl rfl rfl ?_
        refine w_iald (q := 205) (n := 24) (v := I 95 l1) rfl rfl rfl rfl rfl rfl h4 ?_
        refine w_iload (q := 207) rfl rfl rfl ?_
        obtain ⟨h8, k⟩ := k
        refine w_clt (t := 229) (q := 210) rfl rfl rfl h8 h1 (fun c9 => ?_) (fun c9 => ?_)
        · replace k := k.1 c9
          refine w_iinc (q := 232) (L' := [some (.ref 93), some (w_i l1), some (w_i l2), some (w_i l3), some (w_i l4), some (w_i (l5 + 1)), some (w_i l6)]) (M' := []) rfl rfl rfl rfl rfl rfl ?_
          refine w_goto (t := 48) rfl rfl ?_
          exact k
        · replace k := k.2 c9
          refine w_aload_n (q := 211) rfl rfl rfl ?_
          refine w_iload (q := 213) rfl rfl rfl ?_
          refine w_iload_n (q := 214) rfl rfl rfl ?_
          refine w_imul (q := 215) rfl rfl ?_
          refine w_aload_n (q := 216) rfl rfl rfl ?_
          refine w_gfr (q := 219) rfl rfl rfl rfl (j := 95) rfl ?_
          refine w_iload_n (q := 220) rfl rfl rfl ?_
          refine w_iald (q := 221) (n := 24) (v := I 95 l1) rfl rfl rfl rfl rfl rfl h4 ?_
          refine w_iadd (q := 222) rfl rfl ?_
          refine w_iconst (q := 223) rfl rfl ?_
          refine w_iadd (q := 224) rfl rfl ?_
          refine w_iload (q := 226) rfl rfl rfl ?_
          refine w_callv (q := 229) rfl rfl rfl rfl rfl rfl ?_
          exact k
    · replace k := k.2 c6
      refine w_aload_n (q := 152) rfl rfl rfl ?_
      refine w_gfr (q := 155) rfl rfl rfl rfl (j := 95) rfl ?_
      refine w_iload_n (q := 156) rfl rfl rfl ?_
      refine w_iald (q := 157) (n := 24) (v := I 95 l1) rfl rfl rfl rfl rfl rfl h4 ?_
      refine w_iload (q := 159) rfl rfl rfl ?_
      obtain ⟨h10, h11, k⟩ := k
      refine w_clt (t := 183) (q := 162) rfl rfl rfl h10 h11 (fun c12 => ?_) (fun c12 => ?_)
      · replace k := k.1 c12
        refine w_aload_n (q := 184) rfl rfl rfl ?_
        refine w_gfr (q := 187) rfl rfl rfl rfl (j := 78) rfl ?_
        refine w_gfr (q := 190) rfl rfl rfl rfl (j := 2) rfl ?_
        refine w_gfr (q := 193) rfl rfl rfl rfl (j := 3) rfl ?_
        refine w_iload_n (q := 194) rfl rfl rfl ?_
        refine w_iald (q := 195) (n := 24) (v := I 3 l1) rfl rfl rfl rfl rfl rfl h4 ?_
        refine w_iconst (q := 196) rfl rfl ?_
        refine w_cne (t := 229) (q := 199) rfl rfl rfl h5 (by decide) (fun c13 => ?_) (fun c13 => ?_)
        · replace k := k.1 c13
          refine w_iinc (q := 232) (L' := [some (.ref 93), some (w_i l1), some (w_i l2), some (w_i l3), some (w_i l4), some (w_i (l5 + 1)), some (w_i l6)]) (M' := []) rfl rfl rfl rfl rfl rfl ?_
          refine w_goto (t := 48) rfl rfl ?_
          exact k
        · replace k := k.2 c13
          refine w_aload_n (q := 200) rfl rfl rfl ?_
          refine w_gfr (q := 203) rfl rfl rfl rfl (j := 95) rfl ?_
          refine w_iload_n (q := 204) rfl rfl rfl ?_
          refine w_iald (q := 205) (n := 24) (v := I 95 l1) rfl rfl rfl rfl rfl rfl h4 ?_
          refine w_iload (q := 207) rfl rfl rfl ?_
          refine w_clt (t := 229) (q := 210) rfl rfl rfl h10 h1 (fun c14 => ?_) (fun c14 => ?_)
          · replace k := k.1 c14
            refine w_iinc (q := 232) (L' := [some (.ref 93), some (w_i l1), some (w_i l2), some (w_i l3), some (w_i l4), some (w_i (l5 + 1)), some (w_i l6)]) (M' := []) rfl rfl rfl rfl rfl rfl ?_
            refine w_goto (t := 48) rfl rfl ?_
            exact k
          · replace k := k.2 c14
            refine w_aload_n (q := 211) rfl rfl rfl ?_
            refine w_iload (q := 213) rfl rfl rfl ?_
            refine w_iload_n (q := 214) rfl rfl rfl ?_
            refine w_imul (q := 215) rfl rfl ?_
            refine w_aload_n (q := 216) rfl rfl rfl ?_
            refine w_gfr (q := 219) rfl rfl rfl rfl (j := 95) rfl ?_
            refine w_iload_n (q := 220) rfl rfl rfl ?_
            refine w_iald (q := 221) (n := 24) (v := I 95 l1) rfl rfl rfl rfl rfl rfl h4 ?_
            refine w_iadd (q := 222) rfl rfl ?_
            refine w_iconst (q := 223) rfl rfl ?_
            refine w_iadd (q := 224) rfl rfl ?_
            refine w_iload (q := 226) rfl rfl rfl ?_
            refine w_callv (q := 229) rfl rfl rfl rfl rfl rfl ?_
            exact k
      · replace k := k.2 c12
        refine w_aload_n (q := 163) rfl rfl rfl ?_
        refine w_aload_n (q := 164) rfl rfl rfl ?_
        refine w_gfr (q := 167) rfl rfl rfl rfl (j := 95) rfl ?_
        refine w_iload_n (q := 168) rfl rfl rfl ?_
        refine w_iald (q := 169) (n := 24) (v := I 95 l1) rfl rfl rfl rfl rfl rfl h4 ?_
        refine w_iconst (q := 170) rfl rfl ?_
        refine w_iadd (q := 171) rfl rfl ?_
        refine w_iload_n (q := 172) rfl rfl rfl ?_
        refine w_imul (q := 173) rfl rfl ?_
        refine w_iload (q := 175) rfl rfl rfl ?_
        refine w_iadd (q := 176) rfl rfl ?_
        refine w_iload (q := 178) rfl rfl rfl ?_
        refine w_iload_n (q := 179) rfl rfl rfl ?_
        refine w_iadd (q := 180) rfl rfl ?_
        refine w_callv (q := 183) rfl rfl rfl rfl rfl rfl ?_
        exact k
  · replace k := k.2 c3
    refine w_aload_n (q := 118) rfl rfl rfl ?_
    refine w_iload (q := 120) rfl rfl rfl ?_
    refine w_iload_n (q := 121) rfl rfl rfl ?_
    refine w_imul (q := 122) rfl rfl ?_
    refine w_iload (q := 124) rfl rfl rfl ?_
    refine w_iadd (q := 125) rfl rfl ?_
    refine w_iconst (q := 126) rfl rfl ?_
    refine w_iadd (q := 127) rfl rfl ?_
    refine w_iload (q := 129) rfl rfl rfl ?_
    refine w_ldc (q := 131) (n := 65536) rfl rfl rfl ?_
    refine w_iadd (q := 132) rfl rfl ?_
    refine w_callv (q := 135) rfl rfl rfl rfl rfl rfl ?_
    exact k
theorem e111t {xs : Nat → Int32} {xl : Nat} {I J : w_I} {Q : Option Value → w_I → w_I → Bool → Prop} {a1 a2 : Int} (t : w_T xs xl 111 0 [some (.ref 93), some (w_i a1), some (w_i a2)] [] [] I J true Q) : w_C xs xl 111 [.ref 93, w_i a1, w_i a2] I J true Q := w_en rfl t
theorem b111_0t {xs : Nat → Int32} {xl : Nat} {I J : w_I} {Q : Option Value → w_I → w_I → Bool → Prop} {a1 a2 : Int} (k : ((0 ≤ a1 ∧ a1 < 169) ∧ ((-2147483648 ≤ I 98 a1 ∧ I 98 a1 < 2147483648) ∧ (-2147483648 ≤ a2 ∧ a2 < 2147483648) ∧ Q none (w_U I 98 a1 (min (I 98 a1) a2)) J true))) : w_T xs xl 111 0 [some (.ref 93), some (w_i a1), some (w_i a2)] [] [] I J true Q := by
  refine w_aload_n (q := 1) rfl rfl rfl ?_
  refine w_gfr (q := 4) rfl rfl rfl rfl (j := 98) rfl ?_
  refine w_iload_n (q := 5) rfl rfl rfl ?_
  refine w_aload_n (q := 6) rfl rfl rfl ?_
  refine w_gfr (q := 9) rfl rfl rfl rfl (j := 98) rfl ?_
  refine w_iload_n (q := 10) rfl rfl rfl ?_
  obtain ⟨h1, k⟩ := k
  refine w_iald (q := 11) (n := 169) (v := I 98 a1) rfl rfl rfl rfl rfl rfl h1 ?_
  refine w_iload_n (q := 12) rfl rfl rfl ?_
  obtain ⟨h2, h3, k⟩ := k
  refine w_min (q := 15) rfl rfl rfl h2 h3 ?_
  refine w_iast (q := 16) (n := 169) rfl rfl rfl rfl rfl h1 ?_
  exact w_vret rfl k
theorem e111f {xs : Nat → Int32} {xl : Nat} {I J : w_I} {Q : Option Value → w_I → w_I → Bool → Prop} {a1 a2 : Int} (t : w_T xs xl 111 0 [some (.ref 93), some (w_i a1), some (w_i a2)] [] [] I J false Q) : w_C xs xl 111 [.ref 93, w_i a1, w_i a2] I J false Q := w_en rfl t
theorem b111_0f {xs : Nat → Int32} {xl : Nat} {I J : w_I} {Q : Option Value → w_I → w_I → Bool → Prop} {a1 a2 : Int} (k : ((0 ≤ a1 ∧ a1 < 169) ∧ ((-2147483648 ≤ I 99 a1 ∧ I 99 a1 < 2147483648) ∧ (-2147483648 ≤ a2 ∧ a2 < 2147483648) ∧ Q none (w_U I 99 a1 (min (I 99 a1) a2)) J false))) : w_T xs xl 111 0 [some (.ref 93), some (w_i a1), some (w_i a2)] [] [] I J false Q := by
  refine w_aload_n (q := 1) rfl rfl rfl ?_
  refine w_gfr (q := 4) rfl rfl rfl rfl (j := 99) rfl ?_
  refine w_iload_n (q := 5) rfl rfl rfl ?_
  refine w_aload_n (q := 6) rfl rfl rfl ?_
  refine w_gfr (q := 9) rfl rfl rfl rfl (j := 99) rfl ?_
  refine w_iload_n (q := 10) rfl rfl rfl ?_
  obtain ⟨h1, k⟩ := k
  refine w_iald (q := 11) (n := 169) (v := I 99 a1) rfl rfl rfl rfl rfl rfl h1 ?_
  refine w_iload_n (q := 12) rfl rfl rfl ?_
  obtain ⟨h2, h3, k⟩ := k
  refine w_min (q := 15) rfl rfl rfl h2 h3 ?_
  refine w_iast (q := 16) (n := 169) rfl rfl rfl rfl rfl h1 ?_
  exact w_vret rfl k
theorem e113 {xs : Nat → Int32} {xl : Nat} {I J : w_I} {b : Bool} {Q : Option Value → w_I → w_I → Bool → Prop} {a1 a2 : Int} (t : w_T xs xl 113 0 [some (.ref 102), some (w_i a1), some (w_i a2)] [] [] I J b Q) : w_C xs xl 113 [.ref 102, w_i a1, w_i a2] I J b Q := w_en rfl t
theorem b113_0 {xs : Nat → Int32} {xl : Nat} {I J : w_I} {b : Bool} {Q : Option Value → w_I → w_I → Bool → Prop} {a1 a2 : Int} (k : w_C xs xl 28 [.ref 78, w_i a1] I J b (fun v Ic Jc bc => w_T xs xl 113 8 [some (.ref 102), some (w_i a1), some (w_i a2)] [] (w_pv v []) Ic Jc bc Q)) : w_T xs xl 113 0 [some (.ref 102), some (w_i a1), some (w_i a2)] [] [] I J b Q := by
  refine w_aload_n (q := 1) rfl rfl rfl ?_
  refine w_gfr (q := 4) rfl rfl rfl rfl (j := 78) rfl ?_
  refine w_iload_n (q := 5) rfl rfl rfl ?_
  refine w_callv (q := 8) rfl rfl rfl rfl rfl rfl ?_
  exact k
theorem b113_8 {xs : Nat → Int32} {xl : Nat} {I J : w_I} {b : Bool} {Q : Option Value → w_I → w_I → Bool → Prop} {l1 l2 : Int} (k : ((0 ≤ l2 ∧ l2 < 24) ∧ ((0 ≤ l1 ∧ l1 < 30) ∧ ((-2147483648 ≤ I 29 l1 ∧ I 29 l1 < 2147483648) ∧ (-2147483648 ≤ l2 ∧ l2 < 2147483648) ∧ ((¬ I 29 l1 = l2 → w_C xs xl 96 [.ref 79, w_i 1] (w_U (w_U (w_U I 80 9 (I 4 l2)) 80 5 l2) 80 8 0) J b (fun v Ic Jc bc => w_T xs xl 113 91 [some (.ref 102), some (w_i l1), some (w_i l2)] [] (w_pv v []) Ic Jc bc Q)) ∧ (I 29 l1 = l2 → w_C xs xl 96 [.ref 79, w_i 1] (w_U (w_U (w_U I 80 9 (I 4 l2)) 80 5 l2) 80 8 1) J b (fun v Ic Jc bc => w_T xs xl 113 91 [some (.ref 102), some (w_i l1), some (w_i l2)] [] (w_pv v []) Ic Jc bc Q))))))) : w_T xs xl 113 8 [some (.ref 102), some (w_i l1), some (w_i l2)] [] [] I J b Q := by
  refine w_aload_n (q := 9) rfl rfl rfl ?_
  refine w_gfr (q := 12) rfl rfl rfl rfl (j := 78) rfl ?_
  refine w_gfr (q := 15) rfl rfl rfl rfl (j := 79) rfl ?_
  refine w_gfr (q := 18) rfl rfl rfl rfl (j := 80) rfl ?_
  refine w_bipush (q := 20) rfl rfl rfl ?_
  refine w_aload_n (q := 21) rfl rfl rfl ?_
  refine w_gfr (q := 24) rfl rfl rfl rfl (j := 78) rfl ?_
  refine w_gfr (q := 27) rfl rfl rfl rfl (j := 2) rfl ?_
  refine w_gfr (q := 30) rfl rfl rfl rfl (j := 4) rfl ?_
  refine w_iload_n (q := 31) rfl rfl rfl ?_
  obtain ⟨h1, k⟩ := k
  refine w_iald (q := 32) (n := 24) (v := I 4 l2) rfl rfl rfl rfl rfl rfl h1 ?_
  refine w_iast (q := 33) (n := 10) rfl rfl rfl rfl rfl (by decide) ?_
  refine w_aload_n (q := 34) rfl rfl rfl ?_
  refine w_gfr (q := 37) rfl rfl rfl rfl (j := 78) rfl ?_
  refine w_gfr (q := 40) rfl rfl rfl rfl (j := 79) rfl ?_
  refine w_gfr (q := 43) rfl rfl rfl rfl (j := 80) rfl ?_
  refine w_iconst (q := 44) rfl rfl ?_
  refine w_iload_n (q := 45) rfl rfl rfl ?_
  refine w_iast (q := 46) (n := 10) rfl rfl rfl rfl rfl (by decide) ?_
  refine w_aload_n (q := 47) rfl rfl rfl ?_
  refine w_gfr (q := 50) rfl rfl rfl rfl (j := 78) rfl ?_
  refine w_gfr (q := 53) rfl rfl rfl rfl (j := 79) rfl ?_
  refine w_gfr (q := 56) rfl rfl rfl rfl (j := 80) rfl ?_
  refine w_bipush (q := 58) rfl rfl rfl ?_
  refine w_aload_n (q := 59) rfl rfl rfl ?_
  refine w_gfr (q := 62) rfl rfl rfl rfl (j := 78) rfl ?_
  refine w_gfr (q := 65) rfl rfl rfl rfl (j := 20) rfl ?_
  refine w_gfr (q := 68) rfl rfl rfl rfl (j := 29) rfl ?_
  refine w_iload_n (q := 69) rfl rfl rfl ?_
  obtain ⟨h2, k⟩ := k
  refine w_iald (q := 70) (n := 30) (v := I 29 l1) rfl rfl rfl rfl rfl rfl h2 ?_
  refine w_iload_n (q := 71) rfl rfl rfl ?_
  obtain ⟨h3, h4, k⟩ := k
  refine w_cne (t := 78) (q := 74) rfl rfl rfl h3 h4 (fun c5 => ?_) (fun c5 => ?_)
  · replace k := k.1 c5
    refine w_iconst (q := 79) rfl rfl ?_
    refine w_iast (q := 80) (n := 10) rfl rfl rfl rfl rfl (by decide) ?_
    refine w_aload_n (q := 81) rfl rfl rfl ?_
    refine w_gfr (q := 84) rfl rfl rfl rfl (j := 78) rfl ?_
    refine w_gfr (q := 87) rfl rfl rfl rfl (j := 79) rfl ?_
    refine w_iconst (q := 88) rfl rfl ?_
    refine w_callv (q := 91) rfl rfl rfl rfl rfl rfl ?_
    exact k
  · replace k := k.2 c5
    refine w_iconst (q := 75) rfl rfl ?_
    refine w_goto (t := 79) rfl rfl ?_
    refine w_iast (q := 80) (n := 10) rfl rfl rfl rfl rfl (by decide) ?_
    refine w_aload_n (q := 81) rfl rfl rfl ?_
    refine w_gfr (q := 84) rfl rfl rfl rfl (j := 78) rfl ?_
    refine w_gfr (q := 87) rfl rfl rfl rfl (j := 79) rfl ?_
    refine w_iconst (q := 88) rfl rfl ?_
    refine w_callv (q := 91) rfl rfl rfl rfl rfl rfl ?_
    exact k
theorem b113_91 {xs : Nat → Int32} {xl : Nat} {I J : w_I} {b : Bool} {Q : Option Value → w_I → w_I → Bool → Prop} {u1 u2 : Option Value} {s0 : Int} (k : w_C xs xl 161 [w_i s0, w_i 999] I J b (fun v Ic Jc bc => w_T xs xl 113 97 [some (.ref 102), u1, u2] [] (w_pv v []) Ic Jc bc Q)) : w_T xs xl 113 91 [some (.ref 102), u1, u2] [] [w_i s0] I J b Q := by
  refine w_sipush (q := 94) rfl rfl rfl ?_
  refine w_call (q := 97) rfl rfl rfl rfl rfl ?_
  exact k
theorem b113_97 {xs : Nat → Int32} {xl : Nat} {I J : w_I} {b : Bool} {Q : Option Value → w_I → w_I → Bool → Prop} {u1 u2 : Option Value} {s0 : Int} (k : Q (some (w_i s0)) I J b) : w_T xs xl 113 97 [some (.ref 102), u1, u2] [] [w_i s0] I J b Q := by
  exact w_iret rfl rfl k
theorem e114 {xs : Nat → Int32} {xl : Nat} {I J : w_I} {b : Bool} {Q : Option Value → w_I → w_I → Bool → Prop} (t : w_T xs xl 114 0 [some (.ref 102), none, none, none] [] [] I J b Q) : w_C xs xl 114 [.ref 102] I J b Q := w_en rfl t
theorem b114_0 {xs : Nat → Int32} {xl : Nat} {I J : w_I} {b : Bool} {Q : Option Value → w_I → w_I → Bool → Prop} (k : w_T xs xl 114 7 [some (.ref 102), some (w_i 0), none, none] [] [] (w_U I 102 1 0) J b Q) : w_T xs xl 114 0 [some (.ref 102), none, none, none] [] [] I J b Q := by
  refine w_aload_n (q := 1) rfl rfl rfl ?_
  refine w_iconst (q := 2) rfl rfl ?_
  refine w_pfi (q := 5) (k' := 1) rfl rfl rfl rfl ?_
  refine w_iconst (q := 6) rfl rfl ?_
  refine w_istore_n (q := 7) (L' := [some (.ref 102), some (w_i 0), none, none]) (M' := []) rfl rfl rfl rfl rfl ?_
  exact k
theorem b114_7 {xs : Nat → Int32} {xl : Nat} {I J : w_I} {b : Bool} {Q : Option Value → w_I → w_I → Bool → Prop} {l1 : Int} {u2 u3 : Option Value} (k : ((-2147483648 ≤ l1 ∧ l1 < 2147483648) ∧ (-2147483648 ≤ I 20 14 ∧ I 20 14 < 2147483648) ∧ ((I 20 14 ≤ l1 → ((-2147483648 ≤ I 102 1 ∧ I 102 1 < 2147483648) ∧ ((I 102 1 ≤ 0 → Q (some (w_i 0)) I J b) ∧ (¬ I 102 1 ≤ 0 → Q (some (w_i 1)) I J b)))) ∧ (¬ I 20 14 ≤ l1 → w_T xs xl 114 25 [some (.ref 102), some (w_i l1), some (w_i (l1 + 1)), u3] [] [] I J b Q)))) : w_T xs xl 114 7 [some (.ref 102), some (w_i l1), u2, u3] [] [] I J b Q := by
  refine w_iload_n (q := 8) rfl rfl rfl ?_
  refine w_aload_n (q := 9) rfl rfl rfl ?_
  refine w_gfr (q := 12) rfl rfl rfl rfl (j := 78) rfl ?_
  refine w_gfr (q := 15) rfl rfl rfl rfl (j := 20) rfl ?_
  refine w_gfi (q := 18) (k' := 14) (v := I 20 14) rfl rfl rfl rfl rfl rfl rfl ?_
  obtain ⟨h1, h2, k⟩ := k
  refine w_cge (t := 90) (q := 21) rfl rfl rfl h1 h2 (fun c3 => ?_) (fun c3 => ?_)
  · replace k := k.1 c3
    refine w_aload_n (q := 91) rfl rfl rfl ?_
    refine w_gfi (q := 94) (k' := 1) (v := I 102 1) rfl rfl rfl rfl rfl rfl rfl ?_
    obtain ⟨h4, k⟩ := k
    refine w_zle (t := 101) (q := 97) rfl rfl rfl h4 (fun c5 => ?_) (fun c5 => ?_)
    · replace k := k.1 c5
      refine w_iconst (q := 102) rfl rfl ?_
      refine w_iret rfl rfl k
    · replace k := k.2 c5
      refine w_iconst (q := 98) rfl rfl ?_
      refine w_goto (t := 102) rfl rfl ?_
      refine w_iret rfl rfl k
  · replace k := k.2 c3
    refine w_iload_n (q := 22) rfl rfl rfl ?_
    refine w_iconst (q := 23) rfl rfl ?_
    refine w_iadd (q := 24) rfl rfl ?_
    refine w_istore_n (q := 25) (L' := [some (.ref 102), some (w_i l1), some (w_i (l1 + 1)), u3]) (M' := []) rfl rfl rfl rfl rfl ?_
    exact k
theorem b114_25 {xs : Nat → Int32} {xl : Nat} {I J : w_I} {b : Bool} {Q : Option Value → w_I → w_I → Bool → Prop} {l1 l2 : Int} {u3 : Option Value} (k : ((-2147483648 ≤ l2 ∧ l2 < 2147483648) ∧ (-2147483648 ≤ I 20 14 ∧ I 20 14 < 2147483648) ∧ ((I 20 14 ≤ l2 → w_T xs xl 114 7 [some (.ref 102), some (w_i (l1 + 1)), some (w_i l2), u3] [] [] I J b Q) ∧ (¬ I 20 14 ≤ l2 → w_C xs xl 115 [.ref 102, w_i l1, w_i l2] I J b (fun v Ic Jc bc => w_T xs xl 114 45 [some (.ref 102), some (w_i l1), some (w_i l2), u3] [] (w_pv v []) Ic Jc bc Q))))) : w_T xs xl 114 25 [some (.ref 102), some (w_i l1), some (w_i l2), u3] [] [] I J b Q := by
  refine w_iload_n (q := 26) rfl rfl rfl ?_
  refine w_aload_n (q := 27) rfl rfl rfl ?_
  refine w_gfr (q := 30) rfl rfl rfl rfl (j := 78) rfl ?_
  refine w_gfr (q := 33) rfl rfl rfl rfl (j := 20) rfl ?_
  refine w_gfi (q := 36) (k' := 14) (v := I 20 14) rfl rfl rfl rfl rfl rfl rfl ?_
  obtain ⟨h1, h2, k⟩ := k
  refine w_cge (t := 84) (q := 39) rfl rfl rfl h1 h2 (fun c3 => ?_) (fun c3 => ?_)
  · replace k := k.1 c3
    refine w_iinc (q := 87) (L' := [some (.ref 102), some (w_i (l1 + 1)), some (w_i l2), u3]) (M' := []) rfl rfl rfl rfl rfl rfl ?_
    refine w_goto (t := 7) rfl rfl ?_
    exact k
  · replace k := k.2 c3
    refine w_aload_n (q := 40) rfl rfl rfl ?_
    refine w_iload_n (q := 41) rfl rfl rfl ?_
    refine w_iload_n (q := 42) rfl rfl rfl ?_
    refine w_callv (q := 45) rfl rfl rfl rfl rfl rfl ?_
    exact k
theorem b114_45 {xs : Nat → Int32} {xl : Nat} {I J : w_I} {b : Bool} {Q : Option Value → w_I → w_I → Bool → Prop} {l1 l2 s0 : Int} {u3 : Option Value} (k : ((-2147483648 ≤ s0 ∧ s0 < 2147483648) ∧ ((s0 = 0 → w_T xs xl 114 25 [some (.ref 102), some (w_i l1), some (w_i (l2 + 1)), u3] [] [] I J b Q) ∧ (¬ s0 = 0 → w_C xs xl 116 [.ref 102, w_i l1, w_i l2] I J b (fun v Ic Jc bc => w_T xs xl 114 54 [some (.ref 102), some (w_i l1), some (w_i l2), u3] [] (w_pv v []) Ic Jc bc Q))))) : w_T xs xl 114 45 [some (.ref 102), some (w_i l1), some (w_i l2), u3] [] [w_i s0] I J b Q := by
  obtain ⟨h1, k⟩ := k
  refine w_zeq (t := 78) (q := 48) rfl rfl rfl h1 (fun c2 => ?_) (fun c2 => ?_)
  · replace k := k.1 c2
    refine w_iinc (q := 81) (L' := [some (.ref 102), some (w_i l1), some (w_i (l2 + 1)), u3]) (M' := []) rfl rfl rfl rfl rfl rfl ?_
    refine w_goto (t := 25) rfl rfl ?_
    exact k
  · replace k := k.2 c2
    refine w_aload_n (q := 49) rfl rfl rfl ?_
    refine w_iload_n (q := 50) rfl rfl rfl ?_
    refine w_iload_n (q := 51) rfl rfl rfl ?_
    refine w_callv (q := 54) rfl rfl rfl rfl rfl rfl ?_
    exact k
theorem b114_54 {xs : Nat → Int32} {xl : Nat} {I J : w_I} {b : Bool} {Q : Option Value → w_I → w_I → Bool → Prop} {l1 l2 s0 : Int} {u3 : Option Value} (k : ((-2147483648 ≤ s0 ∧ s0 < 2147483648) ∧ (-2147483648 ≤ I 102 1 ∧ I 102 1 < 2147483648) ∧ ((s0 ≤ I 102 1 → w_T xs xl 114 25 [some (.ref 102), some (w_i l1), some (w_i (l2 + 1)), some (w_i s0)] [] [] I J b Q) ∧ (¬ s0 ≤ I 102 1 → w_T xs xl 114 25 [some (.ref 102), some (w_i l1), some (w_i (l2 + 1)), some (w_i s0)] [] [] (w_U (w_U (w_U I 102 1 s0) 102 2 l1) 102 3 l2) J b Q)))) : w_T xs xl 114 54 [some (.ref 102), some (w_i l1), some (w_i l2), u3] [] [w_i s0] I J b Q := by
  refine w_istore_n (q := 55) (L' := [some (.ref 102), some (w_i l1), some (w_i l2), some (w_i s0)]) (M' := []) rfl rfl rfl rfl rfl ?_
  refine w_iload_n (q := 56) rfl rfl rfl ?_
  refine w_aload_n (q := 57) rfl rfl rfl ?_
  refine w_gfi (q := 60) (k' := 1) (v := I 102 1) rfl rfl rfl rfl rfl rfl rfl ?_
  obtain ⟨h1, h2, k⟩ := k
  refine w_cle (t := 78) (q := 63) rfl rfl rfl h1 h2 (fun c3 => ?_) (fun c3 => ?_)
  · replace k := k.1 c3
    refine w_iinc (q := 81) (L' := [some (.ref 102), some (w_i l1), some (w_i (l2 + 1)), some (w_i s0)]) (M' := []) rfl rfl rfl rfl rfl rfl ?_
    refine w_goto (t := 25) rfl rfl ?_
    exact k
  · replace k := k.2 c3
    refine w_aload_n (q := 64) rfl rfl rfl ?_
    refine w_iload_n (q := 65) rfl rfl rfl ?_
    refine w_pfi (q := 68) (k' := 1) rfl rfl rfl rfl ?_
    refine w_aload_n (q := 69) rfl rfl rfl ?_
    refine w_iload_n (q := 70) rfl rfl rfl ?_
    refine w_pfi (q := 73) (k' := 2) rfl rfl rfl rfl ?_
    refine w_aload_n (q := 74) rfl rfl rfl ?_
    refine w_iload_n (q := 75) rfl rfl rfl ?_
    refine w_pfi (q := 78) (k' := 3) rfl rfl rfl rfl ?_
    refine w_iinc (q := 81) (L' := [some (.ref 102), some (w_i l1), some (w_i (l2 + 1)), some (w_i s0)]) (M' := []) rfl rfl rfl rfl rfl rfl ?_
    refine w_goto (t := 25) rfl rfl ?_
    exact k
theorem e115 {xs : Nat → Int32} {xl : Nat} {I J : w_I} {b : Bool} {Q : Option Value → w_I → w_I → Bool → Prop} {a1 a2 : Int} (t : w_T xs xl 115 0 [some (.ref 102), some (w_i a1), some (w_i a2), none] [] [] I J b Q) : w_C xs xl 115 [.ref 102, w_i a1, w_i a2] I J b Q := w_en rfl t
theorem b115_0 {xs : Nat → Int32} {xl : Nat} {I J : w_I} {b : Bool} {Q : Option Value → w_I → w_I → Bool → Prop} {a1 a2 : Int} (k : w_C xs xl 6 [.ref 20, w_i a1] I J b (fun v Ic Jc bc => w_T xs xl 115 13 [some (.ref 102), some (w_i a1), some (w_i a2), some (.ref 20)] [] (w_pv v []) Ic Jc bc Q)) : w_T xs xl 115 0 [some (.ref 102), some (w_i a1), some (w_i a2), none] [] [] I J b Q := by
  refine w_aload_n (q := 1) rfl rfl rfl ?_
  refine w_gfr (q := 4) rfl rfl rfl rfl (j := 78) rfl ?_
  refine w_gfr (q := 7) rfl rfl rfl rfl (j := 20) rfl ?_
  refine w_astore_n (q := 8) (L' := [some (.ref 102), some (w_i a1), some (w_i a2), some (.ref 20)]) (M' := []) rfl rfl rfl rfl rfl rfl ?_
  refine w_aload_n (q := 9) rfl rfl rfl ?_
  refine w_iload_n (q := 10) rfl rfl rfl ?_
  refine w_callv (q := 13) rfl rfl rfl rfl rfl rfl ?_
  exact k
theorem b115_13 {xs : Nat → Int32} {xl : Nat} {I J : w_I} {b : Bool} {Q : Option Value → w_I → w_I → Bool → Prop} {l1 l2 s0 : Int} (k : ((-2147483648 ≤ s0 ∧ s0 < 2147483648) ∧ ((s0 = 0 → Q (some (w_i 0)) I J b) ∧ (¬ s0 = 0 → w_C xs xl 6 [.ref 20, w_i l2] I J b (fun v Ic Jc bc => w_T xs xl 115 21 [some (.ref 102), some (w_i l1), some (w_i l2), some (.ref 20)] [] (w_pv v []) Ic Jc bc Q))))) : w_T xs xl 115 13 [some (.ref 102), some (w_i l1), some (w_i l2), some (.ref 20)] [] [w_i s0] I J b Q := by
  obtain ⟨h1, k⟩ := k
  refine w_zeq (t := 69) (q := 16) rfl rfl rfl h1 (fun c2 => ?_) (fun c2 => ?_)
  · replace k := k.1 c2
    refine w_iconst (q := 70) rfl rfl ?_
    refine w_iret rfl rfl k
  · replace k := k.2 c2
    refine w_aload_n (q := 17) rfl rfl rfl ?_
    refine w_iload_n (q := 18) rfl rfl rfl ?_
    refine w_callv (q := 21) rfl rfl rfl rfl rfl rfl ?_
    exact k
theorem b115_21 {xs : Nat → Int32} {xl : Nat} {I J : w_I} {b : Bool} {Q : Option Value → w_I → w_I → Bool → Prop} {l1 l2 s0 : Int} (k : ((-2147483648 ≤ s0 ∧ s0 < 2147483648) ∧ ((s0 = 0 → Q (some (w_i 0)) I J b) ∧ (¬ s0 = 0 → ((0 ≤ l1 ∧ l1 < 30) ∧ ((0 ≤ l2 ∧ l2 < 30) ∧ ((-2147483648 ≤ I 83 l1 ∧ I 83 l1 < 2147483648) ∧ (-2147483648 ≤ I 83 l2 ∧ I 83 l2 < 2147483648) ∧ ((¬ I 83 l1 = I 83 l2 → Q (some (w_i 0)) I J b) ∧ (I 83 l1 = I 83 l2 → ((-2147483648 ≤ I 28 l1 ∧ I 28 l1 < 2147483648) ∧ ((I 28 l1 = (-1) → Q (some (w_i 0)) I J b) ∧ (¬ I 28 l1 = (-1) → ((-2147483648 ≤ I 28 l2 ∧ I 28 l2 < 2147483648) ∧ ((I 28 l2 = (-1) → Q (some (w_i 0)) I J b) ∧ (¬ I 28 l2 = (-1) → Q (some (w_i 1)) I J b))))))))))))))) : w_T xs xl 115 21 [some (.ref 102), some (w_i l1), some (w_i l2), some (.ref 20)] [] [w_i s0] I J b Q := by
  obtain ⟨h1, k⟩ := k
  refine w_zeq (t := 69) (q := 24) rfl rfl rfl h1 (fun c2 => ?_) (fun c2 => ?_)
  · replace k := k.1 c2
    refine w_iconst (q := 70) rfl rfl ?_
    refine w_iret rfl rfl k
  · replace k := k.2 c2
    refine w_aload_n (q := 25) rfl rfl rfl ?_
    refine w_gfr (q := 28) rfl rfl rfl rfl (j := 78) rfl ?_
    refine w_gfr (q := 31) rfl rfl rfl rfl (j := 83) rfl ?_
    refine w_iload_n (q := 32) rfl rfl rfl ?_
    obtain ⟨h3, k⟩ := k
    refine w_iald (q := 33) (n := 30) (v := I 83 l1) rfl rfl rfl rfl rfl rfl h3 ?_
    refine w_aload_n (q := 34) rfl rfl rfl ?_
    refine w_gfr (q := 37) rfl rfl rfl rfl (j := 78) rfl ?_
    refine w_gfr (q := 40) rfl rfl rfl rfl (j := 83) rfl ?_
    refine w_iload_n (q := 41) rfl rfl rfl ?_
    obtain ⟨h4, k⟩ := k
    refine w_iald (q := 42) (n := 30) (v := I 83 l2) rfl rfl rfl rfl rfl rfl h4 ?_
    obtain ⟨h5, h6, k⟩ := k
    refine w_cne (t := 69) (q := 45) rfl rfl rfl h5 h6 (fun c7 => ?_) (fun c7 => ?_)
    · replace k := k.1 c7
      refine w_iconst (q := 70) rfl rfl ?_
      refine w_iret rfl rfl k
    · replace k := k.2 c7
      refine w_aload_n (q := 46) rfl rfl rfl ?_
      refine w_gfr (q := 49) rfl rfl rfl rfl (j := 28) rfl ?_
      refine w_iload_n (q := 50) rfl rfl rfl ?_
      refine w_iald (q := 51) (n := 30) (v := I 28 l1) rfl rfl rfl rfl rfl rfl h3 ?_
      refine w_iconst (q := 52) rfl rfl ?_
      obtain ⟨h8, k⟩ := k
      refine w_ceq (t := 69) (q := 55) rfl rfl rfl h8 (by decide) (fun c9 => ?_) (fun c9 => ?_)
      · replace k := k.1 c9
        refine w_iconst (q := 70) rfl rfl ?_
        refine w_iret rfl rfl k
      · replace k := k.2 c9
        refine w_aload_n (q := 56) rfl rfl rfl ?_
        refine w_gfr (q := 59) rfl rfl rfl rfl (j := 28) rfl ?_
        refine w_iload_n (q := 60) rfl rfl rfl ?_
        refine w_iald (q := 61) (n := 30) (v := I 28 l2) rfl rfl rfl rfl rfl rfl h4 ?_
        refine w_iconst (q := 62) rfl rfl ?_
        obtain ⟨h10, k⟩ := k
        refine w_ceq (t := 69) (q := 65) rfl rfl rfl h10 (by decide) (fun c11 => ?_) (fun c11 => ?_)
        · replace k := k.1 c11
          refine w_iconst (q := 70) rfl rfl ?_
          refine w_iret rfl rfl k
        · replace k := k.2 c11
          refine w_iconst (q := 66) rfl rfl ?_
          refine w_goto (t := 70) rfl rfl ?_
          refine w_iret rfl rfl k
theorem e116 {xs : Nat → Int32} {xl : Nat} {I J : w_I} {b : Bool} {Q : Option Value → w_I → w_I → Bool → Prop} {a1 a2 : Int} (t : w_T xs xl 116 0 [some (.ref 102), some (w_i a1), some (w_i a2), none, none] [] [] I J b Q) : w_C xs xl 116 [.ref 102, w_i a1, w_i a2] I J b Q := w_en rfl t
theorem b116_0 {xs : Nat → Int32} {xl : Nat} {I J : w_I} {b : Bool} {Q : Option Value → w_I → w_I → Bool → Prop} {a1 a2 : Int} (k : ((0 ≤ a1 ∧ a1 < 30) ∧ ((0 ≤ a2 ∧ a2 < 30) ∧ w_C xs xl 113 [.ref 102, w_i a1, w_i (I 28 a2)] I J b (fun v Ic Jc bc => w_T xs xl 116 34 [some (.ref 102), some (w_i a1), some (w_i a2), some (w_i (I 28 a1)), some (w_i (I 28 a2))] [] (w_pv v []) Ic Jc bc Q)))) : w_T xs xl 116 0 [some (.ref 102), some (w_i a1), some (w_i a2), none, none] [] [] I J b Q := by
  refine w_aload_n (q := 1) rfl rfl rfl ?_
  refine w_gfr (q := 4) rfl rfl rfl rfl (j := 78) rfl ?_
  refine w_gfr (q := 7) rfl rfl rfl rfl (j := 20) rfl ?_
  refine w_gfr (q := 10) rfl rfl rfl rfl (j := 28) rfl ?_
  refine w_iload_n (q := 11) rfl rfl rfl ?_
  obtain ⟨h1, k⟩ := k
  refine w_iald (q := 12) (n := 30) (v := I 28 a1) rfl rfl rfl rfl rfl rfl h1 ?_
  refine w_istore_n (q := 13) (L' := [some (.ref 102), some (w_i a1), some (w_i a2), some (w_i (I 28 a1)), none]) (M' := []) rfl rfl rfl rfl rfl ?_
  refine w_aload_n (q := 14) rfl rfl rfl ?_
  refine w_gfr (q := 17) rfl rfl rfl rfl (j := 78) rfl ?_
  refine w_gfr (q := 20) rfl rfl rfl rfl (j := 20) rfl ?_
  refine w_gfr (q := 23) rfl rfl rfl rfl (j := 28) rfl ?_
  refine w_iload_n (q := 24) rfl rfl rfl ?_
  obtain ⟨h2, k⟩ := k
  refine w_iald (q := 25) (n := 30) (v := I 28 a2) rfl rfl rfl rfl rfl rfl h2 ?_
  refine w_istore (q := 27) (L' := [some (.ref 102), some (w_i a1), some (w_i a2), some (w_i (I 28 a1)), some (w_i (I 28 a2))]) (M' := []) rfl rfl rfl rfl rfl ?_
  refine w_aload_n (q := 28) rfl rfl rfl ?_
  refine w_iload_n (q := 29) rfl rfl rfl ?_
  refine w_iload (q := 31) rfl rfl rfl ?_
  refine w_callv (q := 34) rfl rfl rfl rfl rfl rfl ?_
  exact k
theorem b116_34 {xs : Nat → Int32} {xl : Nat} {I J : w_I} {b : Bool} {Q : Option Value → w_I → w_I → Bool → Prop} {l1 l2 l3 l4 s0 : Int} (k : w_C xs xl 113 [.ref 102, w_i l2, w_i l3] I J b (fun v Ic Jc bc => w_T xs xl 116 40 [some (.ref 102), some (w_i l1), some (w_i l2), some (w_i l3), some (w_i l4)] [] (w_pv v [w_i s0]) Ic Jc bc Q)) : w_T xs xl 116 34 [some (.ref 102), some (w_i l1), some (w_i l2), some (w_i l3), some (w_i l4)] [] [w_i s0] I J b Q := by
  refine w_aload_n (q := 35) rfl rfl rfl ?_
  refine w_iload_n (q := 36) rfl rfl rfl ?_
  refine w_iload_n (q := 37) rfl rfl rfl ?_
  refine w_callv (q := 40) rfl rfl rfl rfl rfl rfl ?_
  exact k
theorem b116_40 {xs : Nat → Int32} {xl : Nat} {I J : w_I} {b : Bool} {Q : Option Value → w_I → w_I → Bool → Prop} {l1 l2 l3 l4 s0 s1 : Int} (k : w_C xs xl 113 [.ref 102, w_i l1, w_i l3] I J b (fun v Ic Jc bc => w_T xs xl 116 47 [some (.ref 102), some (w_i l1), some (w_i l2), some (w_i l3), some (w_i l4)] [] (w_pv v [w_i (s0 + s1)]) Ic Jc bc Q)) : w_T xs xl 116 40 [some (.ref 102), some (w_i l1), some (w_i l2), some (w_i l3), some (w_i l4)] [] [w_i s1, w_i s0] I J b Q := by
  refine w_iadd (q := 41) rfl rfl ?_
  refine w_aload_n (q := 42) rfl rfl rfl ?_
  refine w_iload_n (q := 43) rfl rfl rfl ?_
  refine w_iload_n (q := 44) rfl rfl rfl ?_
  refine w_callv (q := 47) rfl rfl rfl rfl rfl rfl ?_
  exact k
theorem b116_47 {xs : Nat → Int32} {xl : Nat} {I J : w_I} {b : Bool} {Q : Option Value → w_I → w_I → Bool → Prop} {u1 u3 : Option Value} {l2 l4 s0 s1 : Int} (k : w_C xs xl 113 [.ref 102, w_i l2, w_i l4] I J b (fun v Ic Jc bc => w_T xs xl 116 55 [some (.ref 102), u1, some (w_i l2), u3, some (w_i l4)] [] (w_pv v [w_i (s0 - s1)]) Ic Jc bc Q)) : w_T xs xl 116 47 [some (.ref 102), u1, some (w_i l2), u3, some (w_i l4)] [] [w_i s1, w_i s0] I J b Q := by
  refine w_isub (q := 48) rfl rfl ?_
  refine w_aload_n (q := 49) rfl rfl rfl ?_
  refine w_iload_n (q := 50) rfl rfl rfl ?_
  refine w_iload (q := 52) rfl rfl rfl ?_
  refine w_callv (q := 55) rfl rfl rfl rfl rfl rfl ?_
  exact k
theorem b116_55 {xs : Nat → Int32} {xl : Nat} {I J : w_I} {b : Bool} {Q : Option Value → w_I → w_I → Bool → Prop} {u1 u2 u3 u4 : Option Value} {s0 s1 : Int} (k : Q (some (w_i (s0 - s1))) I J b) : w_T xs xl 116 55 [some (.ref 102), u1, u2, u3, u4] [] [w_i s1, w_i s0] I J b Q := by
  refine w_isub (q := 56) rfl rfl ?_
  exact w_iret rfl rfl k
theorem e117 {xs : Nat → Int32} {xl : Nat} {I J : w_I} {b : Bool} {Q : Option Value → w_I → w_I → Bool → Prop} {a1 a2 : Int} (t : w_T xs xl 117 0 [some (.ref 102), some (w_i a1), some (w_i a2), none, none, none, none, none, none, none, none] [none, none, none, none, none, none, none, none, none, none, none] [] I J b Q) : w_C xs xl 117 [.ref 102, w_i a1, w_i a2] I J b Q := w_en rfl t
theorem b117_0 {xs : Nat → Int32} {xl : Nat} {I J : w_I} {b : Bool} {Q : Option Value → w_I → w_I → Bool → Prop} {a1 a2 : Int} (k : ((0 ≤ a1 ∧ a1 < 30) ∧ ((0 ≤ I 29 a1 ∧ I 29 a1 < 24) ∧ ((-2147483648 ≤ I 30 (I 29 a1) ∧ I 30 (I 29 a1) < 2147483648) ∧ ((I 30 (I 29 a1) = (-1) → Q (some (w_l (-2))) I J b) ∧ (¬ I 30 (I 29 a1) = (-1) → ((-2147483648 ≤ a1 ∧ a1 < 2147483648) ∧ ((¬ I 30 (I 29 a1) = a1 → w_C xs xl 18 [.ref 20, w_i (I 30 (I 29 a1))] I J b (fun v Ic Jc bc => w_T xs xl 117 43 [some (.ref 102), some (w_i a1), some (w_i a2), some (.ref 20), some (w_i (I 30 (I 29 a1))), none, none, none, none, none, none] [none, none, none, none, none, none, none, none, none, none, none] (w_pv v []) Ic Jc bc Q)) ∧ (I 30 (I 29 a1) = a1 → Q (some (w_l (-2))) I J b))))))))) : w_T xs xl 117 0 [some (.ref 102), some (w_i a1), some (w_i a2), none, none, none, none, none, none, none, none] [none, none, none, none, none, none, none, none, none, none, none] [] I J b Q := by
  refine w_aload_n (q := 1) rfl rfl rfl ?_
  refine w_gfr (q := 4) rfl rfl rfl rfl (j := 78) rfl ?_
  refine w_gfr (q := 7) rfl rfl rfl rfl (j := 20) rfl ?_
  refine w_astore_n (q := 8) (L' := [some (.ref 102), some (w_i a1), some (w_i a2), some (.ref 20), none, none, none, none, none, none, none]) (M' := [none, none, none, none, none, none, none, none, none, none, none]) rfl rfl rfl rfl rfl rfl ?_
  refine w_aload_n (q := 9) rfl rfl rfl ?_
  refine w_gfr (q := 12) rfl rfl rfl rfl (j := 30) rfl ?_
  refine w_aload_n (q := 13) rfl rfl rfl ?_
  refine w_gfr (q := 16) rfl rfl rfl rfl (j := 29) rfl ?_
  refine w_iload_n (q := 17) rfl rfl rfl ?_
  obtain ⟨h1, k⟩ := k
  refine w_iald (q := 18) (n := 30) (v := I 29 a1) rfl rfl rfl rfl rfl rfl h1 ?_
  obtain ⟨h2, k⟩ := k
  refine w_iald (q := 19) (n := 24) (v := I 30 (I 29 a1)) rfl rfl rfl rfl rfl rfl h2 ?_
  refine w_istore (q := 21) (L' := [some (.ref 102), some (w_i a1), some (w_i a2), some (.ref 20), some (w_i (I 30 (I 29 a1))), none, none, none, none, none, none]) (M' := [none, none, none, none, none, none, none, none, none, none, none]) rfl rfl rfl rfl rfl ?_
  refine w_iload (q := 23) rfl rfl rfl ?_
  refine w_iconst (q := 24) rfl rfl ?_
  obtain ⟨h3, k⟩ := k
  refine w_ceq (t := 33) (q := 27) rfl rfl rfl h3 (by decide) (fun c4 => ?_) (fun c4 => ?_)
  · replace k := k.1 c4
    refine w_ldc2 (q := 36) (n := -2) rfl rfl rfl ?_
    exact w_jret rfl k
  · replace k := k.2 c4
    refine w_iload (q := 29) rfl rfl rfl ?_
    refine w_iload_n (q := 30) rfl rfl rfl ?_
    obtain ⟨h5, k⟩ := k
    refine w_cne (t := 37) (q := 33) rfl rfl rfl h3 h5 (fun c6 => ?_) (fun c6 => ?_)
    · replace k := k.1 c6
      refine w_aload_n (q := 38) rfl rfl rfl ?_
      refine w_iload (q := 40) rfl rfl rfl ?_
      refine w_callv (q := 43) rfl rfl rfl rfl rfl rfl ?_
      exact k
    · replace k := k.2 c6
      refine w_ldc2 (q := 36) (n := -2) rfl rfl rfl ?_
      exact w_jret rfl k
theorem b117_43 {xs : Nat → Int32} {xl : Nat} {I J : w_I} {b : Bool} {Q : Option Value → w_I → w_I → Bool → Prop} {u1 u4 u5 u6 u7 u8 u9 u10 : Option Value} {l2 s0 : Int} {m0 m1 m2 m3 m4 m5 m6 m7 m8 m9 m10 : Option Int64} (k : ((-2147483648 ≤ s0 ∧ s0 < 2147483648) ∧ ((¬ s0 = (-1) → w_T xs xl 117 64 [some (.ref 102), u1, some (w_i l2), some (.ref 20), u4, some (w_i s0), none, none, none, none, some (w_i 0)] [m0, m1, m2, m3, none, none, some (Int64.ofInt 1), none, some (Int64.ofInt 1), none, none] [] I J b Q) ∧ (s0 = (-1) → Q (some (w_l (-2))) I J b)))) : w_T xs xl 117 43 [some (.ref 102), u1, some (w_i l2), some (.ref 20), u4, u5, u6, u7, u8, u9, u10] [m0, m1, m2, m3, m4, m5, m6, m7, m8, m9, m10] [w_i s0] I J b Q := by
  refine w_istore (q := 45) (L' := [some (.ref 102), u1, some (w_i l2), some (.ref 20), u4, some (w_i s0), u6, u7, u8, u9, u10]) (M' := [m0, m1, m2, m3, none, none, m6, m7, m8, m9, m10]) rfl rfl rfl rfl rfl ?_
  refine w_iload (q := 47) rfl rfl rfl ?_
  refine w_iconst (q := 48) rfl rfl ?_
  obtain ⟨h1, k⟩ := k
  refine w_cne (t := 55) (q := 51) rfl rfl rfl h1 (by decide) (fun c2 => ?_) (fun c2 => ?_)
  · replace k := k.1 c2
    refine w_lconst (q := 56) (k := 1) rfl rfl rfl ?_
    refine w_lstore (q := 58) (L' := [some (.ref 102), u1, some (w_i l2), some (.ref 20), u4, some (w_i s0), none, none, u8, u9, u10]) (M' := [m0, m1, m2, m3, none, none, some (Int64.ofInt 1), none, m8, m9, m10]) rfl rfl rfl rfl rfl ?_
    refine w_lconst (q := 59) (k := 1) rfl rfl rfl ?_
    refine w_lstore (q := 61) (L' := [some (.ref 102), u1, some (w_i l2), some (.ref 20), u4, some (w_i s0), none, none, none, none, u10]) (M' := [m0, m1, m2, m3, none, none, some (Int64.ofInt 1), none, some (Int64.ofInt 1), none, m10]) rfl rfl rfl rfl rfl ?_
    refine w_iconst (q := 62) rfl rfl ?_
    refine w_istore (q := 64) (L' := [some (.ref 102), u1, some (w_i l2), some (.ref 20), u4, some (w_i s0), none, none, none, none, some (w_i 0)]) (M' := [m0, m1, m2, m3, none, none, some (Int64.ofInt 1), none, some (Int64.ofInt 1), none, none]) rfl rfl rfl rfl rfl ?_
    exact k
  · replace k := k.2 c2
    refine w_ldc2 (q := 54) (n := -2) rfl rfl rfl ?_
    exact w_jret rfl k
theorem b117_64 {xs : Nat → Int32} {xl : Nat} {I J : w_I} {b : Bool} {Q : Option Value → w_I → w_I → Bool → Prop} {u1 u4 u7 u9 : Option Value} {l2 l5 l10 j6 j8 : Int} {m0 m1 m2 m3 m4 m5 m7 m9 m10 : Option Int64} (k : ((-2147483648 ≤ l10 ∧ l10 < 2147483648) ∧ (-2147483648 ≤ l2 ∧ l2 < 2147483648) ∧ ((l2 ≤ l10 → Q (some (w_l (j6 - j8))) I J b) ∧ (¬ l2 ≤ l10 → w_C xs xl 11 [.ref 20, w_i l5, w_i 0] I J b (fun v Ic Jc bc => w_T xs xl 117 93 [some (.ref 102), u1, some (w_i l2), some (.ref 20), u4, some (w_i l5), none, none, none, u9, some (w_i l10)] [m0, m1, m2, m3, m4, none, some (Int64.ofInt (j6 * 100)), none, some (Int64.ofInt j8), m9, m10] (w_pv v [.ref 78, w_i 100, w_l j8]) Ic Jc bc Q))))) : w_T xs xl 117 64 [some (.ref 102), u1, some (w_i l2), some (.ref 20), u4, some (w_i l5), none, u7, none, u9, some (w_i l10)] [m0, m1, m2, m3, m4, m5, some (Int64.ofInt j6), m7, some (Int64.ofInt j8), m9, m10] [] I J b Q := by
  refine w_iload (q := 66) rfl rfl rfl ?_
  refine w_iload_n (q := 67) rfl rfl rfl ?_
  obtain ⟨h1, h2, k⟩ := k
  refine w_cge (t := 117) (q := 70) rfl rfl rfl h1 h2 (fun c3 => ?_) (fun c3 => ?_)
  · replace k := k.1 c3
    refine w_lload (q := 119) rfl rfl rfl ?_
    refine w_lload (q := 121) rfl rfl rfl ?_
    refine w_lsub (q := 122) rfl rfl ?_
    exact w_jret rfl k
  · replace k := k.2 c3
    refine w_lload (q := 72) rfl rfl rfl ?_
    refine w_ldc2 (q := 75) (n := 100) rfl rfl rfl ?_
    refine w_lmul (q := 76) rfl rfl ?_
    refine w_lstore (q := 78) (L' := [some (.ref 102), u1, some (w_i l2), some (.ref 20), u4, some (w_i l5), none, none, none, u9, some (w_i l10)]) (M' := [m0, m1, m2, m3, m4, none, some (Int64.ofInt (j6 * 100)), none, some (Int64.ofInt j8), m9, m10]) rfl rfl rfl rfl rfl ?_
    refine w_lload (q := 80) rfl rfl rfl ?_
    refine w_bipush (q := 82) rfl rfl rfl ?_
    refine w_aload_n (q := 83) rfl rfl rfl ?_
    refine w_gfr (q := 86) rfl rfl rfl rfl (j := 78) rfl ?_
    refine w_aload_n (q := 87) rfl rfl rfl ?_
    refine w_iload (q := 89) rfl rfl rfl ?_
    refine w_iconst (q := 90) rfl rfl ?_
    refine w_callv (q := 93) rfl rfl rfl rfl rfl rfl ?_
    exact k
theorem b117_93 {xs : Nat → Int32} {xl : Nat} {I J : w_I} {b : Bool} {Q : Option Value → w_I → w_I → Bool → Prop} {u1 u4 u7 u8 u9 : Option Value} {l2 l5 l10 j6 s0 s1 s3 : Int} {m0 m1 m2 m3 m4 m5 m7 m8 m9 m10 : Option Int64} (k : ((0 ≤ l5 ∧ l5 < 60) ∧ w_C xs xl 30 [.ref 78, w_i (s3 + l10), w_i (I 24 l5)] I J b (fun v Ic Jc bc => w_T xs xl 117 106 [some (.ref 102), u1, some (w_i l2), some (.ref 20), u4, some (w_i l5), none, u7, u8, u9, some (w_i l10)] [m0, m1, m2, m3, m4, m5, some (Int64.ofInt j6), m7, m8, m9, m10] (w_pv v [w_i s1, w_l s0]) Ic Jc bc Q))) : w_T xs xl 117 93 [some (.ref 102), u1, some (w_i l2), some (.ref 20), u4, some (w_i l5), none, u7, u8, u9, some (w_i l10)] [m0, m1, m2, m3, m4, m5, some (Int64.ofInt j6), m7, m8, m9, m10] [w_i s3, .ref 78, w_i s1, w_l s0] I J b Q := by
  refine w_iload (q := 95) rfl rfl rfl ?_
  refine w_iadd (q := 96) rfl rfl ?_
  refine w_aload_n (q := 97) rfl rfl rfl ?_
  refine w_gfr (q := 100) rfl rfl rfl rfl (j := 24) rfl ?_
  refine w_iload (q := 102) rfl rfl rfl ?_
  obtain ⟨h1, k⟩ := k
  refine w_iald (q := 103) (n := 60) (v := I 24 l5) rfl rfl rfl rfl rfl rfl h1 ?_
  refine w_callv (q := 106) rfl rfl rfl rfl rfl rfl ?_
  exact k
theorem b117_106 {xs : Nat → Int32} {xl : Nat} {I J : w_I} {b : Bool} {Q : Option Value → w_I → w_I → Bool → Prop} {u1 u4 u7 u8 u9 : Option Value} {l2 l5 l10 j6 s0 s1 s2 : Int} {m0 m1 m2 m3 m4 m5 m7 m8 m9 m10 : Option Int64} (k : ((-2147483648 ≤ s1 - s2 ∧ s1 - s2 < 2147483648) ∧ w_T xs xl 117 64 [some (.ref 102), u1, some (w_i l2), some (.ref 20), u4, some (w_i l5), none, u7, none, none, some (w_i (l10 + 1))] [m0, m1, m2, m3, m4, m5, some (Int64.ofInt j6), none, some (Int64.ofInt (s0 * (s1 - s2))), none, none] [] I J b Q)) : w_T xs xl 117 106 [some (.ref 102), u1, some (w_i l2), some (.ref 20), u4, some (w_i l5), none, u7, u8, u9, some (w_i l10)] [m0, m1, m2, m3, m4, m5, some (Int64.ofInt j6), m7, m8, m9, m10] [w_i s2, w_i s1, w_l s0] I J b Q := by
  refine w_isub (q := 107) rfl rfl ?_
  obtain ⟨h1, k⟩ := k
  refine w_i2l (q := 108) rfl rfl h1 ?_
  refine w_lmul (q := 109) rfl rfl ?_
  refine w_lstore (q := 111) (L' := [some (.ref 102), u1, some (w_i l2), some (.ref 20), u4, some (w_i l5), none, u7, none, none, some (w_i l10)]) (M' := [m0, m1, m2, m3, m4, m5, some (Int64.ofInt j6), none, some (Int64.ofInt (s0 * (s1 - s2))), none, m10]) rfl rfl rfl rfl rfl ?_
  refine w_iinc (q := 114) (L' := [some (.ref 102), u1, some (w_i l2), some (.ref 20), u4, some (w_i l5), none, u7, none, none, some (w_i (l10 + 1))]) (M' := [m0, m1, m2, m3, m4, m5, some (Int64.ofInt j6), none, some (Int64.ofInt (s0 * (s1 - s2))), none, none]) rfl rfl rfl rfl rfl rfl ?_
  refine w_goto (t := 64) rfl rfl ?_
  exact k
theorem e119 {xs : Nat → Int32} {xl : Nat} {I J : w_I} {b : Bool} {Q : Option Value → w_I → w_I → Bool → Prop} {a1 a2 a3 a4 a5 : Int} (t : w_T xs xl 119 0 [some (.ref 0), some (w_i a1), some (w_i a2), some (w_i a3), some (w_i a4), some (w_i a5)] [] [] I J b Q) : w_C xs xl 119 [.ref 0, w_i a1, w_i a2, w_i a3, w_i a4, w_i a5] I J b Q := w_en rfl t
theorem b119_0 {xs : Nat → Int32} {xl : Nat} {I J : w_I} {b : Bool} {Q : Option Value → w_I → w_I → Bool → Prop} {a1 a2 a3 a4 a5 : Int} (k : ((-2147483648 ≤ I 0 1 + 20 ∧ I 0 1 + 20 < 2147483648) ∧ ((I 0 1 + 20 ≤ 2000 → w_C xs xl 155 [.ref 0, w_i a1] I J b (fun v Ic Jc bc => w_T xs xl 119 20 [some (.ref 0), some (w_i a1), some (w_i a2), some (w_i a3), some (w_i a4), some (w_i a5)] [] (w_pv v []) Ic Jc bc Q)) ∧ (¬ I 0 1 + 20 ≤ 2000 → Q (some (w_i (-1))) I J b)))) : w_T xs xl 119 0 [some (.ref 0), some (w_i a1), some (w_i a2), some (w_i a3), some (w_i a4), some (w_i a5)] [] [] I J b Q := by
  refine w_aload_n (q := 1) rfl rfl rfl ?_
  refine w_gfi (q := 4) (k' := 1) (v := I 0 1) rfl rfl rfl rfl rfl rfl rfl ?_
  refine w_bipush (q := 6) rfl rfl rfl ?_
  refine w_iadd (q := 7) rfl rfl ?_
  refine w_sipush (q := 10) rfl rfl rfl ?_
  obtain ⟨h1, k⟩ := k
  refine w_cle (t := 15) (q := 13) rfl rfl rfl h1 (by decide) (fun c2 => ?_) (fun c2 => ?_)
  · replace k := k.1 c2
    refine w_aload_n (q := 16) rfl rfl rfl ?_
    refine w_iload_n (q := 17) rfl rfl rfl ?_
    refine w_callv (q := 20) rfl rfl rfl rfl rfl rfl ?_
    exact k
  · replace k := k.2 c2
    refine w_iconst (q := 14) rfl rfl ?_
    exact w_iret rfl rfl k
theorem b119_20 {xs : Nat → Int32} {xl : Nat} {I J : w_I} {b : Bool} {Q : Option Value → w_I → w_I → Bool → Prop} {u1 : Option Value} {l2 l3 l4 l5 : Int} (k : w_C xs xl 155 [.ref 0, w_i l2] I J b (fun v Ic Jc bc => w_T xs xl 119 25 [some (.ref 0), u1, some (w_i l2), some (w_i l3), some (w_i l4), some (w_i l5)] [] (w_pv v []) Ic Jc bc Q)) : w_T xs xl 119 20 [some (.ref 0), u1, some (w_i l2), some (w_i l3), some (w_i l4), some (w_i l5)] [] [] I J b Q := by
  refine w_aload_n (q := 21) rfl rfl rfl ?_
  refine w_iload_n (q := 22) rfl rfl rfl ?_
  refine w_callv (q := 25) rfl rfl rfl rfl rfl rfl ?_
  exact k
theorem b119_25 {xs : Nat → Int32} {xl : Nat} {I J : w_I} {b : Bool} {Q : Option Value → w_I → w_I → Bool → Prop} {u1 u2 : Option Value} {l3 l4 l5 : Int} (k : w_C xs xl 155 [.ref 0, w_i l3] I J b (fun v Ic Jc bc => w_T xs xl 119 30 [some (.ref 0), u1, u2, some (w_i l3), some (w_i l4), some (w_i l5)] [] (w_pv v []) Ic Jc bc Q)) : w_T xs xl 119 25 [some (.ref 0), u1, u2, some (w_i l3), some (w_i l4), some (w_i l5)] [] [] I J b Q := by
  refine w_aload_n (q := 26) rfl rfl rfl ?_
  refine w_iload_n (q := 27) rfl rfl rfl ?_
  refine w_callv (q := 30) rfl rfl rfl rfl rfl rfl ?_
  exact k
theorem b119_30 {xs : Nat → Int32} {xl : Nat} {I J : w_I} {b : Bool} {Q : Option Value → w_I → w_I → Bool → Prop} {u1 u2 u3 : Option Value} {l4 l5 : Int} (k : w_C xs xl 155 [.ref 0, w_i l4] I J b (fun v Ic Jc bc => w_T xs xl 119 36 [some (.ref 0), u1, u2, u3, some (w_i l4), some (w_i l5)] [] (w_pv v []) Ic Jc bc Q)) : w_T xs xl 119 30 [some (.ref 0), u1, u2, u3, some (w_i l4), some (w_i l5)] [] [] I J b Q := by
  refine w_aload_n (q := 31) rfl rfl rfl ?_
  refine w_iload (q := 33) rfl rfl rfl ?_
  refine w_callv (q := 36) rfl rfl rfl rfl rfl rfl ?_
  exact k
theorem b119_36 {xs : Nat → Int32} {xl : Nat} {I J : w_I} {b : Bool} {Q : Option Value → w_I → w_I → Bool → Prop} {u1 u2 u3 u4 : Option Value} {l5 : Int} (k : w_C xs xl 155 [.ref 0, w_i l5] I J b (fun v Ic Jc bc => w_T xs xl 119 42 [some (.ref 0), u1, u2, u3, u4, some (w_i l5)] [] (w_pv v []) Ic Jc bc Q)) : w_T xs xl 119 36 [some (.ref 0), u1, u2, u3, u4, some (w_i l5)] [] [] I J b Q := by
  refine w_aload_n (q := 37) rfl rfl rfl ?_
  refine w_iload (q := 39) rfl rfl rfl ?_
  refine w_callv (q := 42) rfl rfl rfl rfl rfl rfl ?_
  exact k
theorem b119_42 {xs : Nat → Int32} {xl : Nat} {I J : w_I} {b : Bool} {Q : Option Value → w_I → w_I → Bool → Prop} {u1 u2 u3 u4 u5 : Option Value} (k : Q (some (w_i (I 0 1))) I J b) : w_T xs xl 119 42 [some (.ref 0), u1, u2, u3, u4, u5] [] [] I J b Q := by
  refine w_aload_n (q := 43) rfl rfl rfl ?_
  refine w_gfi (q := 46) (k' := 1) (v := I 0 1) rfl rfl rfl rfl rfl rfl rfl ?_
  exact w_iret rfl rfl k
theorem e120 {xs : Nat → Int32} {xl : Nat} {I J : w_I} {b : Bool} {Q : Option Value → w_I → w_I → Bool → Prop} {a1 : Int} (t : w_T xs xl 120 0 [some (.ref 0), some (w_i a1)] [] [] I J b Q) : w_C xs xl 120 [.ref 0, w_i a1] I J b Q := w_en rfl t
theorem b120_0 {xs : Nat → Int32} {xl : Nat} {I J : w_I} {b : Bool} {Q : Option Value → w_I → w_I → Bool → Prop} {a1 : Int} (k : ((-2147483648 ≤ a1 ∧ a1 < 2147483648) ∧ ((a1 < 0 → Q (some (w_i (-1))) I J b) ∧ (¬ a1 < 0 → ((-2147483648 ≤ I 0 1 ∧ I 0 1 < 2147483648) ∧ ((a1 ≤ I 0 1 → Q (some (w_i (I 0 1 - a1))) (w_U I 0 1 (I 0 1 - a1)) J b) ∧ (¬ a1 ≤ I 0 1 → Q (some (w_i (-1))) I J b))))))) : w_T xs xl 120 0 [some (.ref 0), some (w_i a1)] [] [] I J b Q := by
  refine w_iload_n (q := 1) rfl rfl rfl ?_
  obtain ⟨h1, k⟩ := k
  refine w_zlt (t := 12) (q := 4) rfl rfl rfl h1 (fun c2 => ?_) (fun c2 => ?_)
  · replace k := k.1 c2
    refine w_iconst (q := 13) rfl rfl ?_
    exact w_iret rfl rfl k
  · replace k := k.2 c2
    refine w_iload_n (q := 5) rfl rfl rfl ?_
    refine w_aload_n (q := 6) rfl rfl rfl ?_
    refine w_gfi (q := 9) (k' := 1) (v := I 0 1) rfl rfl rfl rfl rfl rfl rfl ?_
    obtain ⟨h3, k⟩ := k
    refine w_cle (t := 14) (q := 12) rfl rfl rfl h1 h3 (fun c4 => ?_) (fun c4 => ?_)
    · replace k := k.1 c4
      refine w_aload_n (q := 15) rfl rfl rfl ?_
      refine w_dup (q := 16) rfl rfl rfl ?_
      refine w_gfi (q := 19) (k' := 1) (v := I 0 1) rfl rfl rfl rfl rfl rfl rfl ?_
      refine w_iload_n (q := 20) rfl rfl rfl ?_
      refine w_isub (q := 21) rfl rfl ?_
      refine w_pfi (q := 24) (k' := 1) rfl rfl rfl rfl ?_
      refine w_aload_n (q := 25) rfl rfl rfl ?_
      refine w_gfi (q := 28) (k' := 1) (v := I 0 1 - a1) rfl rfl rfl rfl rfl rfl rfl ?_
      exact w_iret rfl rfl k
    · replace k := k.2 c4
      refine w_iconst (q := 13) rfl rfl ?_
      exact w_iret rfl rfl k
theorem e121 {xs : Nat → Int32} {xl : Nat} {I J : w_I} {b : Bool} {Q : Option Value → w_I → w_I → Bool → Prop} (t : w_T xs xl 121 0 [some (.ref 0), none, none] [] [] I J b Q) : w_C xs xl 121 [.ref 0] I J b Q := w_en rfl t
theorem b121_0 {xs : Nat → Int32} {xl : Nat} {I J : w_I} {b : Bool} {Q : Option Value → w_I → w_I → Bool → Prop} (k : w_C xs xl 64 [.ref 8, w_i (I 0 1)] I J b (fun v Ic Jc bc => w_T xs xl 121 11 [some (.ref 0), none, none] [] (w_pv v []) Ic Jc bc Q)) : w_T xs xl 121 0 [some (.ref 0), none, none] [] [] I J b Q := by
  refine w_aload_n (q := 1) rfl rfl rfl ?_
  refine w_gfr (q := 4) rfl rfl rfl rfl (j := 8) rfl ?_
  refine w_aload_n (q := 5) rfl rfl rfl ?_
  refine w_gfi (q := 8) (k' := 1) (v := I 0 1) rfl rfl rfl rfl rfl rfl rfl ?_
  refine w_callv (q := 11) rfl rfl rfl rfl rfl rfl ?_
  exact k
theorem b121_11 {xs : Nat → Int32} {xl : Nat} {I J : w_I} {b : Bool} {Q : Option Value → w_I → w_I → Bool → Prop} {u1 u2 : Option Value} {s0 : Int} (k : ((-2147483648 ≤ s0 ∧ s0 < 2147483648) ∧ ((¬ s0 = 0 → ((¬ s0 = 0 → Q (some (w_i s0)) (w_U (w_U I 0 1 0) 0 2 (I 8 11)) J b) ∧ (s0 = 0 → w_C xs xl 103 [.ref 2, .ref 9] (w_U (w_U I 0 1 0) 0 2 (I 8 11)) J b (fun v Ic Jc bc => w_T xs xl 121 54 [some (.ref 0), some (w_i s0), u2] [] (w_pv v []) Ic Jc bc Q)))) ∧ (s0 = 0 → ((¬ s0 = 0 → Q (some (w_i s0)) (w_U (w_U I 0 1 0) 0 2 (-1)) J b) ∧ (s0 = 0 → w_C xs xl 103 [.ref 2, .ref 9] (w_U (w_U I 0 1 0) 0 2 (-1)) J b (fun v Ic Jc bc => w_T xs xl 121 54 [some (.ref 0), some (w_i s0), u2] [] (w_pv v []) Ic Jc bc Q))))))) : w_T xs xl 121 11 [some (.ref 0), u1, u2] [] [w_i s0] I J b Q := by
  refine w_istore_n (q := 12) (L' := [some (.ref 0), some (w_i s0), u2]) (M' := []) rfl rfl rfl rfl rfl ?_
  refine w_aload_n (q := 13) rfl rfl rfl ?_
  refine w_iconst (q := 14) rfl rfl ?_
  refine w_pfi (q := 17) (k' := 1) rfl rfl rfl rfl ?_
  refine w_aload_n (q := 18) rfl rfl rfl ?_
  refine w_iload_n (q := 19) rfl rfl rfl ?_
  obtain ⟨h1, k⟩ := k
  refine w_zne (t := 26) (q := 22) rfl rfl rfl h1 (fun c2 => ?_) (fun c2 => ?_)
  · replace k := k.1 c2
    refine w_aload_n (q := 27) rfl rfl rfl ?_
    refine w_gfr (q := 30) rfl rfl rfl rfl (j := 8) rfl ?_
    refine w_gfi (q := 33) (k' := 11) (v := I 8 11) rfl rfl rfl rfl rfl rfl rfl ?_
    refine w_pfi (q := 36) (k' := 2) rfl rfl rfl rfl ?_
    refine w_iload_n (q := 37) rfl rfl rfl ?_
    refine w_zne (t := 81) (q := 40) rfl rfl rfl h1 (fun c3 => ?_) (fun c3 => ?_)
    · replace k := k.1 c3
      refine w_iload_n (q := 82) rfl rfl rfl ?_
      exact w_iret rfl rfl k
    · replace k := k.2 c3
      refine w_aload_n (q := 41) rfl rfl rfl ?_
      refine w_gfr (q := 44) rfl rfl rfl rfl (j := 2) rfl ?_
      refine w_aload_n (q := 45) rfl rfl rfl ?_
      refine w_gfr (q := 48) rfl rfl rfl rfl (j := 8) rfl ?_
      refine w_gfr (q := 51) rfl rfl rfl rfl (j := 9) rfl ?_
      refine w_callv (q := 54) rfl rfl rfl rfl rfl rfl ?_
      exact k
  · replace k := k.2 c2
    refine w_iconst (q := 23) rfl rfl ?_
    refine w_goto (t := 33) rfl rfl ?_
    refine w_pfi (q := 36) (k' := 2) rfl rfl rfl rfl ?_
    refine w_iload_n (q := 37) rfl rfl rfl ?_
    refine w_zne (t := 81) (q := 40) rfl rfl rfl h1 (fun c4 => ?_) (fun c4 => ?_)
    · replace k := k.1 c4
      refine w_iload_n (q := 82) rfl rfl rfl ?_
      exact w_iret rfl rfl k
    · replace k := k.2 c4
      refine w_aload_n (q := 41) rfl rfl rfl ?_
      refine w_gfr (q := 44) rfl rfl rfl rfl (j := 2) rfl ?_
      refine w_aload_n (q := 45) rfl rfl rfl ?_
      refine w_gfr (q := 48) rfl rfl rfl rfl (j := 8) rfl ?_
      refine w_gfr (q := 51) rfl rfl rfl rfl (j := 9) rfl ?_
      refine w_callv (q := 54) rfl rfl rfl rfl rfl rfl ?_
      exact k
theorem b121_54 {xs : Nat → Int32} {xl : Nat} {I J : w_I} {b : Bool} {Q : Option Value → w_I → w_I → Bool → Prop} {l1 : Int} {u2 : Option Value} (k : w_C xs xl 2 [.ref 20] I J b (fun v Ic Jc bc => w_T xs xl 121 61 [some (.ref 0), some (w_i l1), u2] [] (w_pv v []) Ic Jc bc Q)) : w_T xs xl 121 54 [some (.ref 0), some (w_i l1), u2] [] [] I J b Q := by
  refine w_aload_n (q := 55) rfl rfl rfl ?_
  refine w_gfr (q := 58) rfl rfl rfl rfl (j := 20) rfl ?_
  refine w_callv (q := 61) rfl rfl rfl rfl rfl rfl ?_
  exact k
theorem b121_61 {xs : Nat → Int32} {xl : Nat} {I J : w_I} {b : Bool} {Q : Option Value → w_I → w_I → Bool → Prop} {l1 : Int} {u2 : Option Value} (k : w_T xs xl 121 63 [some (.ref 0), some (w_i l1), some (w_i 0)] [] [] I J b Q) : w_T xs xl 121 61 [some (.ref 0), some (w_i l1), u2] [] [] I J b Q := by
  refine w_iconst (q := 62) rfl rfl ?_
  refine w_istore_n (q := 63) (L' := [some (.ref 0), some (w_i l1), some (w_i 0)]) (M' := []) rfl rfl rfl rfl rfl ?_
  exact k
theorem b121_63 {xs : Nat → Int32} {xl : Nat} {I J : w_I} {b : Bool} {Q : Option Value → w_I → w_I → Bool → Prop} {l1 l2 : Int} (k : ((-2147483648 ≤ l2 ∧ l2 < 2147483648) ∧ ((2 ≤ l2 → Q (some (w_i l1)) I J b) ∧ (¬ 2 ≤ l2 → ((0 ≤ l2 ∧ l2 < 2) ∧ w_T xs xl 121 63 [some (.ref 0), some (w_i l1), some (w_i (l2 + 1))] [] [] (w_U I 49 l2 0) J b Q))))) : w_T xs xl 121 63 [some (.ref 0), some (w_i l1), some (w_i l2)] [] [] I J b Q := by
  refine w_iload_n (q := 64) rfl rfl rfl ?_
  refine w_iconst (q := 65) rfl rfl ?_
  obtain ⟨h1, k⟩ := k
  refine w_cge (t := 81) (q := 68) rfl rfl rfl h1 (by decide) (fun c2 => ?_) (fun c2 => ?_)
  · replace k := k.1 c2
    refine w_iload_n (q := 82) rfl rfl rfl ?_
    exact w_iret rfl rfl k
  · replace k := k.2 c2
    refine w_aload_n (q := 69) rfl rfl rfl ?_
    refine w_gfr (q := 72) rfl rfl rfl rfl (j := 49) rfl ?_
    refine w_iload_n (q := 73) rfl rfl rfl ?_
    refine w_iconst (q := 74) rfl rfl ?_
    obtain ⟨h3, k⟩ := k
    refine w_bast2 (q := 75) (n := 2) rfl rfl rfl rfl rfl (by decide) h3 ?_
    refine w_iinc (q := 78) (L' := [some (.ref 0), some (w_i l1), some (w_i (l2 + 1))]) (M' := []) rfl rfl rfl rfl rfl rfl ?_
    refine w_goto (t := 63) rfl rfl ?_
    exact k
theorem e122 {xs : Nat → Int32} {xl : Nat} {I J : w_I} {b : Bool} {Q : Option Value → w_I → w_I → Bool → Prop} (t : w_T xs xl 122 0 [some (.ref 0)] [] [] I J b Q) : w_C xs xl 122 [.ref 0] I J b Q := w_en rfl t
theorem b122_0 {xs : Nat → Int32} {xl : Nat} {I J : w_I} {b : Bool} {Q : Option Value → w_I → w_I → Bool → Prop} (k : Q (some (w_i (I 0 2))) I J b) : w_T xs xl 122 0 [some (.ref 0)] [] [] I J b Q := by
  refine w_aload_n (q := 1) rfl rfl rfl ?_
  refine w_gfi (q := 4) (k' := 2) (v := I 0 2) rfl rfl rfl rfl rfl rfl rfl ?_
  exact w_iret rfl rfl k
theorem e123 {xs : Nat → Int32} {xl : Nat} {I J : w_I} {b : Bool} {Q : Option Value → w_I → w_I → Bool → Prop} {a1 a2 : Int} (t : w_T xs xl 123 0 [some (.ref 0), some (w_i a1), some (w_i a2)] [] [] I J b Q) : w_C xs xl 123 [.ref 0, w_i a1, w_i a2] I J b Q := w_en rfl t
theorem b123_0 {xs : Nat → Int32} {xl : Nat} {I J : w_I} {b : Bool} {Q : Option Value → w_I → w_I → Bool → Prop} {a1 a2 : Int} (k : w_C xs xl 156 [.ref 0, w_i a1] I J b (fun v Ic Jc bc => w_T xs xl 123 5 [some (.ref 0), some (w_i a1), some (w_i a2)] [] (w_pv v []) Ic Jc bc Q)) : w_T xs xl 123 0 [some (.ref 0), some (w_i a1), some (w_i a2)] [] [] I J b Q := by
  refine w_aload_n (q := 1) rfl rfl rfl ?_
  refine w_iload_n (q := 2) rfl rfl rfl ?_
  refine w_callv (q := 5) rfl rfl rfl rfl rfl rfl ?_
  exact k
theorem b123_5 {xs : Nat → Int32} {xl : Nat} {I J : w_I} {b : Bool} {Q : Option Value → w_I → w_I → Bool → Prop} {l1 l2 s0 : Int} (k : ((-2147483648 ≤ s0 ∧ s0 < 2147483648) ∧ ((¬ s0 = 0 → ((-2147483648 ≤ l2 ∧ l2 < 2147483648) ∧ ((l2 = 0 → ((0 ≤ l1 ∧ l1 < 24) ∧ Q (some (w_i (I 3 l1))) I J b)) ∧ (¬ l2 = 0 → ((l2 = 1 → ((0 ≤ l1 ∧ l1 < 24) ∧ Q (some (w_i (I 4 l1))) I J b)) ∧ (¬ l2 = 1 → ((l2 = 2 → ((0 ≤ l1 ∧ l1 < 24) ∧ w_C xs xl 162 [w_i (I 30 l1)] I J b (fun v Ic Jc bc => w_T xs xl 123 68 [some (.ref 0), some (w_i l1), some (w_i l2)] [] (w_pv v []) Ic Jc bc Q))) ∧ (¬ l2 = 2 → Q (some (w_i (-1))) I J b)))))))) ∧ (s0 = 0 → Q (some (w_i (-1))) I J b)))) : w_T xs xl 123 5 [some (.ref 0), some (w_i l1), some (w_i l2)] [] [w_i s0] I J b Q := by
  obtain ⟨h1, k⟩ := k
  refine w_zne (t := 10) (q := 8) rfl rfl rfl h1 (fun c2 => ?_) (fun c2 => ?_)
  · replace k := k.1 c2
    refine w_iload_n (q := 11) rfl rfl rfl ?_
    obtain ⟨h3, k⟩ := k
    rcases Decidable.em (l2 = 0) with c4 | c4
    · replace k := k.1 c4
      refine w_tsw (t := 36) rfl h3 (by rw [c4]; rfl) ?_
      refine w_aload_n (q := 37) rfl rfl rfl ?_
      refine w_gfr (q := 40) rfl rfl rfl rfl (j := 2) rfl ?_
      refine w_gfr (q := 43) rfl rfl rfl rfl (j := 3) rfl ?_
      refine w_iload_n (q := 44) rfl rfl rfl ?_
      obtain ⟨h5, k⟩ := k
      refine w_iald (q := 45) (n := 24) (v := I 3 l1) rfl rfl rfl rfl rfl rfl h5 ?_
      exact w_iret rfl rfl k
    · replace k := k.2 c4
      rcases Decidable.em (l2 = 1) with c6 | c6
      · replace k := k.1 c6
        refine w_tsw (t := 46) rfl h3 (by rw [c6]; rfl) ?_
        refine w_aload_n (q := 47) rfl rfl rfl ?_
        refine w_gfr (q := 50) rfl rfl rfl rfl (j := 2) rfl ?_
        refine w_gfr (q := 53) rfl rfl rfl rfl (j := 4) rfl ?_
        refine w_iload_n (q := 54) rfl rfl rfl ?_
        obtain ⟨h7, k⟩ := k
        refine w_iald (q := 55) (n := 24) (v := I 4 l1) rfl rfl rfl rfl rfl rfl h7 ?_
        exact w_iret rfl rfl k
      · replace k := k.2 c6
        rcases Decidable.em (l2 = 2) with c8 | c8
        · replace k := k.1 c8
          refine w_tsw (t := 56) rfl h3 (by rw [c8]; rfl) ?_
          refine w_aload_n (q := 57) rfl rfl rfl ?_
          refine w_gfr (q := 60) rfl rfl rfl rfl (j := 20) rfl ?_
          refine w_gfr (q := 63) rfl rfl rfl rfl (j := 30) rfl ?_
          refine w_iload_n (q := 64) rfl rfl rfl ?_
          obtain ⟨h9, k⟩ := k
          refine w_iald (q := 65) (n := 24) (v := I 30 l1) rfl rfl rfl rfl rfl rfl h9 ?_
          refine w_call (q := 68) rfl rfl rfl rfl rfl ?_
          exact k
        · replace k := k.2 c8
          have hd : l2 < 0 ∨ 2 < l2 := by omega
          refine w_tsw (t := 69) rfl h3 (by rw [if_pos hd]; rfl) ?_
          refine w_iconst (q := 70) rfl rfl ?_
          exact w_iret rfl rfl k
  · replace k := k.2 c2
    refine w_iconst (q := 9) rfl rfl ?_
    exact w_iret rfl rfl k
theorem b123_68 {xs : Nat → Int32} {xl : Nat} {I J : w_I} {b : Bool} {Q : Option Value → w_I → w_I → Bool → Prop} {u1 u2 : Option Value} {s0 : Int} (k : Q (some (w_i s0)) I J b) : w_T xs xl 123 68 [some (.ref 0), u1, u2] [] [w_i s0] I J b Q := by
  exact w_iret rfl rfl k
theorem e124 {xs : Nat → Int32} {xl : Nat} {I J : w_I} {b : Bool} {Q : Option Value → w_I → w_I → Bool → Prop} {a1 a2 a3 : Int} (t : w_T xs xl 124 0 [some (.ref 0), some (w_i a1), some (w_i a2), some (w_i a3)] [] [] I J b Q) : w_C xs xl 124 [.ref 0, w_i a1, w_i a2, w_i a3] I J b Q := w_en rfl t
theorem b124_0 {xs : Nat → Int32} {xl : Nat} {I J : w_I} {b : Bool} {Q : Option Value → w_I → w_I → Bool → Prop} {a1 a2 a3 : Int} (k : w_C xs xl 160 [w_i a1] I J b (fun v Ic Jc bc => w_T xs xl 124 4 [some (.ref 0), some (w_i a1), some (w_i a2), some (w_i a3)] [] (w_pv v []) Ic Jc bc Q)) : w_T xs xl 124 0 [some (.ref 0), some (w_i a1), some (w_i a2), some (w_i a3)] [] [] I J b Q := by
  refine w_iload_n (q := 1) rfl rfl rfl ?_
  refine w_call (q := 4) rfl rfl rfl rfl rfl ?_
  exact k
theorem b124_4 {xs : Nat → Int32} {xl : Nat} {I J : w_I} {b : Bool} {Q : Option Value → w_I → w_I → Bool → Prop} {l1 l2 l3 s0 : Int} (k : ((-2147483648 ≤ s0 ∧ s0 < 2147483648) ∧ ((s0 = 0 → Q (some (w_i (-1))) I J b) ∧ (¬ s0 = 0 → w_C xs xl 160 [w_i l2] I J b (fun v Ic Jc bc => w_T xs xl 124 11 [some (.ref 0), some (w_i l1), some (w_i l2), some (w_i l3)] [] (w_pv v []) Ic Jc bc Q))))) : w_T xs xl 124 4 [some (.ref 0), some (w_i l1), some (w_i l2), some (w_i l3)] [] [w_i s0] I J b Q := by
  obtain ⟨h1, k⟩ := k
  refine w_zeq (t := 24) (q := 7) rfl rfl rfl h1 (fun c2 => ?_) (fun c2 => ?_)
  · replace k := k.1 c2
    refine w_iconst (q := 25) rfl rfl ?_
    exact w_iret rfl rfl k
  · replace k := k.2 c2
    refine w_iload_n (q := 8) rfl rfl rfl ?_
    refine w_call (q := 11) rfl rfl rfl rfl rfl ?_
    exact k
theorem b124_11 {xs : Nat → Int32} {xl : Nat} {I J : w_I} {b : Bool} {Q : Option Value → w_I → w_I → Bool → Prop} {l1 l2 l3 s0 : Int} (k : ((-2147483648 ≤ s0 ∧ s0 < 2147483648) ∧ ((s0 = 0 → Q (some (w_i (-1))) I J b) ∧ (¬ s0 = 0 → w_C xs xl 7 [.ref 20] I J b (fun v Ic Jc bc => w_T xs xl 124 21 [some (.ref 0), some (w_i l1), some (w_i l2), some (w_i l3)] [] (w_pv v []) Ic Jc bc Q))))) : w_T xs xl 124 11 [some (.ref 0), some (w_i l1), some (w_i l2), some (w_i l3)] [] [w_i s0] I J b Q := by
  obtain ⟨h1, k⟩ := k
  refine w_zeq (t := 24) (q := 14) rfl rfl rfl h1 (fun c2 => ?_) (fun c2 => ?_)
  · replace k := k.1 c2
    refine w_iconst (q := 25) rfl rfl ?_
    exact w_iret rfl rfl k
  · replace k := k.2 c2
    refine w_aload_n (q := 15) rfl rfl rfl ?_
    refine w_gfr (q := 18) rfl rfl rfl rfl (j := 20) rfl ?_
    refine w_callv (q := 21) rfl rfl rfl rfl rfl rfl ?_
    exact k
theorem b124_21 {xs : Nat → Int32} {xl : Nat} {I J : w_I} {b : Bool} {Q : Option Value → w_I → w_I → Bool → Prop} {l1 l2 l3 s0 : Int} (k : ((-2147483648 ≤ s0 ∧ s0 < 2147483648) ∧ ((s0 = 0 → ((-2147483648 ≤ l3 ∧ l3 < 2147483648) ∧ ((l3 = 0 → w_C xs xl 12 [.ref 20, w_i l1, w_i l2, w_i 0] I J b (fun v Ic Jc bc => w_T xs xl 124 44 [some (.ref 0), some (w_i l1), some (w_i l2), some (w_i l3)] [] (w_pv v []) Ic Jc bc Q)) ∧ (¬ l3 = 0 → w_C xs xl 12 [.ref 20, w_i l1, w_i l2, w_i 1] I J b (fun v Ic Jc bc => w_T xs xl 124 44 [some (.ref 0), some (w_i l1), some (w_i l2), some (w_i l3)] [] (w_pv v []) Ic Jc bc Q))))) ∧ (¬ s0 = 0 → Q (some (w_i (-1))) I J b)))) : w_T xs xl 124 21 [some (.ref 0), some (w_i l1), some (w_i l2), some (w_i l3)] [] [w_i s0] I J b Q := by
  obtain ⟨h1, k⟩ := k
  refine w_zeq (t := 26) (q := 24) rfl rfl rfl h1 (fun c2 => ?_) (fun c2 => ?_)
  · replace k := k.1 c2
    refine w_aload_n (q := 27) rfl rfl rfl ?_
    refine w_gfr (q := 30) rfl rfl rfl rfl (j := 20) rfl ?_
    refine w_iload_n (q := 31) rfl rfl rfl ?_
    refine w_iload_n (q := 32) rfl rfl rfl ?_
    refine w_iload_n (q := 33) rfl rfl rfl ?_
    obtain ⟨h3, k⟩ := k
    refine w_zeq (t := 40) (q := 36) rfl rfl rfl h3 (fun c4 => ?_) (fun c4 => ?_)
    · replace k := k.1 c4
      refine w_iconst (q := 41) rfl rfl ?_
      refine w_callv (q := 44) rfl rfl rfl rfl rfl rfl ?_
      exact k
    · replace k := k.2 c4
      refine w_iconst (q := 37) rfl rfl ?_
      refine w_goto (t := 41) rfl rfl ?_
      refine w_callv (q := 44) rfl rfl rfl rfl rfl rfl ?_
      exact k
  · replace k := k.2 c2
    refine w_iconst (q := 25) rfl rfl ?_
    exact w_iret rfl rfl k
theorem b124_44 {xs : Nat → Int32} {xl : Nat} {I J : w_I} {b : Bool} {Q : Option Value → w_I → w_I → Bool → Prop} {u1 u2 u3 : Option Value} {s0 : Int} (k : Q (some (w_i s0)) I J b) : w_T xs xl 124 44 [some (.ref 0), u1, u2, u3] [] [w_i s0] I J b Q := by
  exact w_iret rfl rfl k
theorem e125 {xs : Nat → Int32} {xl : Nat} {I J : w_I} {b : Bool} {Q : Option Value → w_I → w_I → Bool → Prop} {a1 a2 : Int} (t : w_T xs xl 125 0 [some (.ref 0), some (w_i a1), some (w_i a2)] [] [] I J b Q) : w_C xs xl 125 [.ref 0, w_i a1, w_i a2] I J b Q := w_en rfl t
theorem b125_0 {xs : Nat → Int32} {xl : Nat} {I J : w_I} {b : Bool} {Q : Option Value → w_I → w_I → Bool → Prop} {a1 a2 : Int} (k : w_C xs xl 5 [.ref 20, w_i a1] I J b (fun v Ic Jc bc => w_T xs xl 125 8 [some (.ref 0), some (w_i a1), some (w_i a2)] [] (w_pv v []) Ic Jc bc Q)) : w_T xs xl 125 0 [some (.ref 0), some (w_i a1), some (w_i a2)] [] [] I J b Q := by
  refine w_aload_n (q := 1) rfl rfl rfl ?_
  refine w_gfr (q := 4) rfl rfl rfl rfl (j := 20) rfl ?_
  refine w_iload_n (q := 5) rfl rfl rfl ?_
  refine w_callv (q := 8) rfl rfl rfl rfl rfl rfl ?_
  exact k
theorem b125_8 {xs : Nat → Int32} {xl : Nat} {I J : w_I} {b : Bool} {Q : Option Value → w_I → w_I → Bool → Prop} {l1 l2 s0 : Int} (k : ((-2147483648 ≤ s0 ∧ s0 < 2147483648) ∧ ((s0 = 0 → Q (some (w_i 0)) I J b) ∧ (¬ s0 = 0 → w_C xs xl 6 [.ref 20, w_i l2] I J b (fun v Ic Jc bc => w_T xs xl 125 19 [some (.ref 0), some (w_i l1), some (w_i l2)] [] (w_pv v []) Ic Jc bc Q))))) : w_T xs xl 125 8 [some (.ref 0), some (w_i l1), some (w_i l2)] [] [w_i s0] I J b Q := by
  obtain ⟨h1, k⟩ := k
  refine w_zeq (t := 22) (q := 11) rfl rfl rfl h1 (fun c2 => ?_) (fun c2 => ?_)
  · replace k := k.1 c2
    refine w_iconst (q := 23) rfl rfl ?_
    refine w_iret rfl rfl k
  · replace k := k.2 c2
    refine w_aload_n (q := 12) rfl rfl rfl ?_
    refine w_gfr (q := 15) rfl rfl rfl rfl (j := 20) rfl ?_
    refine w_iload_n (q := 16) rfl rfl rfl ?_
    refine w_callv (q := 19) rfl rfl rfl rfl rfl rfl ?_
    exact k
theorem b125_19 {xs : Nat → Int32} {xl : Nat} {I J : w_I} {b : Bool} {Q : Option Value → w_I → w_I → Bool → Prop} {l1 l2 s0 : Int} (k : ((-2147483648 ≤ s0 ∧ s0 < 2147483648) ∧ ((¬ s0 = 0 → ((0 ≤ l2 ∧ l2 < 30) ∧ ((-2147483648 ≤ I 26 l2 ∧ I 26 l2 < 2147483648) ∧ ((6 ≤ I 26 l2 → Q (some (w_i 0)) I J b) ∧ (¬ 6 ≤ I 26 l2 → ((0 ≤ l1 ∧ l1 < 60) ∧ ((-2147483648 ≤ I 25 l1 ∧ I 25 l1 < 2147483648) ∧ (-2147483648 ≤ l2 ∧ l2 < 2147483648) ∧ ((¬ I 25 l1 = l2 → w_C xs xl 14 [.ref 20, w_i l1] I J b (fun v Ic Jc bc => w_T xs xl 125 61 [some (.ref 0), some (w_i l1), some (w_i l2)] [] (w_pv v []) Ic Jc bc Q)) ∧ (I 25 l1 = l2 → Q (some (w_i 0)) I J b))))))))) ∧ (s0 = 0 → Q (some (w_i 0)) I J b)))) : w_T xs xl 125 19 [some (.ref 0), some (w_i l1), some (w_i l2)] [] [w_i s0] I J b Q := by
  obtain ⟨h1, k⟩ := k
  refine w_zne (t := 24) (q := 22) rfl rfl rfl h1 (fun c2 => ?_) (fun c2 => ?_)
  · replace k := k.1 c2
    refine w_aload_n (q := 25) rfl rfl rfl ?_
    refine w_gfr (q := 28) rfl rfl rfl rfl (j := 20) rfl ?_
    refine w_gfr (q := 31) rfl rfl rfl rfl (j := 26) rfl ?_
    refine w_iload_n (q := 32) rfl rfl rfl ?_
    obtain ⟨h3, k⟩ := k
    refine w_iald (q := 33) (n := 30) (v := I 26 l2) rfl rfl rfl rfl rfl rfl h3 ?_
    refine w_bipush (q := 35) rfl rfl rfl ?_
    obtain ⟨h4, k⟩ := k
    refine w_cge (t := 51) (q := 38) rfl rfl rfl h4 (by decide) (fun c5 => ?_) (fun c5 => ?_)
    · replace k := k.1 c5
      refine w_iconst (q := 52) rfl rfl ?_
      refine w_iret rfl rfl k
    · replace k := k.2 c5
      refine w_aload_n (q := 39) rfl rfl rfl ?_
      refine w_gfr (q := 42) rfl rfl rfl rfl (j := 20) rfl ?_
      refine w_gfr (q := 45) rfl rfl rfl rfl (j := 25) rfl ?_
      refine w_iload_n (q := 46) rfl rfl rfl ?_
      obtain ⟨h6, k⟩ := k
      refine w_iald (q := 47) (n := 60) (v := I 25 l1) rfl rfl rfl rfl rfl rfl h6 ?_
      refine w_iload_n (q := 48) rfl rfl rfl ?_
      obtain ⟨h7, h8, k⟩ := k
      refine w_cne (t := 53) (q := 51) rfl rfl rfl h7 h8 (fun c9 => ?_) (fun c9 => ?_)
      · replace k := k.1 c9
        refine w_aload_n (q := 54) rfl rfl rfl ?_
        refine w_gfr (q := 57) rfl rfl rfl rfl (j := 20) rfl ?_
        refine w_iload_n (q := 58) rfl rfl rfl ?_
        refine w_callv (q := 61) rfl rfl rfl rfl rfl rfl ?_
        exact k
      · replace k := k.2 c9
        refine w_iconst (q := 52) rfl rfl ?_
        refine w_iret rfl rfl k
  · replace k := k.2 c2
    refine w_iconst (q := 23) rfl rfl ?_
    refine w_iret rfl rfl k
theorem b125_61 {xs : Nat → Int32} {xl : Nat} {I J : w_I} {b : Bool} {Q : Option Value → w_I → w_I → Bool → Prop} {l1 l2 : Int} (k : w_C xs xl 13 [.ref 20, w_i l1, w_i l2] I J b (fun v Ic Jc bc => w_T xs xl 125 70 [some (.ref 0), some (w_i l1), some (w_i l2)] [] (w_pv v []) Ic Jc bc Q)) : w_T xs xl 125 61 [some (.ref 0), some (w_i l1), some (w_i l2)] [] [] I J b Q := by
  refine w_aload_n (q := 62) rfl rfl rfl ?_
  refine w_gfr (q := 65) rfl rfl rfl rfl (j := 20) rfl ?_
  refine w_iload_n (q := 66) rfl rfl rfl ?_
  refine w_iload_n (q := 67) rfl rfl rfl ?_
  refine w_callv (q := 70) rfl rfl rfl rfl rfl rfl ?_
  exact k
theorem b125_70 {xs : Nat → Int32} {xl : Nat} {I J : w_I} {b : Bool} {Q : Option Value → w_I → w_I → Bool → Prop} {u1 u2 : Option Value} (k : Q (some (w_i 1)) I J b) : w_T xs xl 125 70 [some (.ref 0), u1, u2] [] [] I J b Q := by
  refine w_iconst (q := 71) rfl rfl ?_
  refine w_iret rfl rfl k
theorem e126 {xs : Nat → Int32} {xl : Nat} {I J : w_I} {b : Bool} {Q : Option Value → w_I → w_I → Bool → Prop} {a1 : Int} (t : w_T xs xl 126 0 [some (.ref 0), some (w_i a1)] [] [] I J b Q) : w_C xs xl 126 [.ref 0, w_i a1] I J b Q := w_en rfl t
theorem b126_0 {xs : Nat → Int32} {xl : Nat} {I J : w_I} {b : Bool} {Q : Option Value → w_I → w_I → Bool → Prop} {a1 : Int} (k : w_C xs xl 5 [.ref 20, w_i a1] I J b (fun v Ic Jc bc => w_T xs xl 126 8 [some (.ref 0), some (w_i a1)] [] (w_pv v []) Ic Jc bc Q)) : w_T xs xl 126 0 [some (.ref 0), some (w_i a1)] [] [] I J b Q := by
  refine w_aload_n (q := 1) rfl rfl rfl ?_
  refine w_gfr (q := 4) rfl rfl rfl rfl (j := 20) rfl ?_
  refine w_iload_n (q := 5) rfl rfl rfl ?_
  refine w_callv (q := 8) rfl rfl rfl rfl rfl rfl ?_
  exact k
theorem b126_8 {xs : Nat → Int32} {xl : Nat} {I J : w_I} {b : Bool} {Q : Option Value → w_I → w_I → Bool → Prop} {l1 s0 : Int} (k : ((-2147483648 ≤ s0 ∧ s0 < 2147483648) ∧ ((¬ s0 = 0 → w_C xs xl 14 [.ref 20, w_i l1] I J b (fun v Ic Jc bc => w_T xs xl 126 21 [some (.ref 0), some (w_i l1)] [] (w_pv v []) Ic Jc bc Q)) ∧ (s0 = 0 → Q (some (w_i 0)) I J b)))) : w_T xs xl 126 8 [some (.ref 0), some (w_i l1)] [] [w_i s0] I J b Q := by
  obtain ⟨h1, k⟩ := k
  refine w_zne (t := 13) (q := 11) rfl rfl rfl h1 (fun c2 => ?_) (fun c2 => ?_)
  · replace k := k.1 c2
    refine w_aload_n (q := 14) rfl rfl rfl ?_
    refine w_gfr (q := 17) rfl rfl rfl rfl (j := 20) rfl ?_
    refine w_iload_n (q := 18) rfl rfl rfl ?_
    refine w_callv (q := 21) rfl rfl rfl rfl rfl rfl ?_
    exact k
  · replace k := k.2 c2
    refine w_iconst (q := 12) rfl rfl ?_
    refine w_iret rfl rfl k
theorem b126_21 {xs : Nat → Int32} {xl : Nat} {I J : w_I} {b : Bool} {Q : Option Value → w_I → w_I → Bool → Prop} {u1 : Option Value} (k : Q (some (w_i 1)) I J b) : w_T xs xl 126 21 [some (.ref 0), u1] [] [] I J b Q := by
  refine w_iconst (q := 22) rfl rfl ?_
  refine w_iret rfl rfl k
theorem e127 {xs : Nat → Int32} {xl : Nat} {I J : w_I} {b : Bool} {Q : Option Value → w_I → w_I → Bool → Prop} {a1 a2 : Int} (t : w_T xs xl 127 0 [some (.ref 0), some (w_i a1), some (w_i a2)] [] [] I J b Q) : w_C xs xl 127 [.ref 0, w_i a1, w_i a2] I J b Q := w_en rfl t
theorem b127_0 {xs : Nat → Int32} {xl : Nat} {I J : w_I} {b : Bool} {Q : Option Value → w_I → w_I → Bool → Prop} {a1 a2 : Int} (k : w_C xs xl 5 [.ref 20, w_i a1] I J b (fun v Ic Jc bc => w_T xs xl 127 8 [some (.ref 0), some (w_i a1), some (w_i a2)] [] (w_pv v []) Ic Jc bc Q)) : w_T xs xl 127 0 [some (.ref 0), some (w_i a1), some (w_i a2)] [] [] I J b Q := by
  refine w_aload_n (q := 1) rfl rfl rfl ?_
  refine w_gfr (q := 4) rfl rfl rfl rfl (j := 20) rfl ?_
  refine w_iload_n (q := 5) rfl rfl rfl ?_
  refine w_callv (q := 8) rfl rfl rfl rfl rfl rfl ?_
  exact k
theorem b127_8 {xs : Nat → Int32} {xl : Nat} {I J : w_I} {b : Bool} {Q : Option Value → w_I → w_I → Bool → Prop} {l1 l2 s0 : Int} (k : ((-2147483648 ≤ s0 ∧ s0 < 2147483648) ∧ ((¬ s0 = 0 → ((-2147483648 ≤ l2 ∧ l2 < 2147483648) ∧ ((l2 = 0 → w_C xs xl 11 [.ref 20, w_i l1, w_i 1] I J b (fun v Ic Jc bc => w_T xs xl 127 53 [some (.ref 0), some (w_i l1), some (w_i l2)] [] (w_pv v []) Ic Jc bc Q)) ∧ (¬ l2 = 0 → ((l2 = 1 → w_C xs xl 11 [.ref 20, w_i l1, w_i 0] I J b (fun v Ic Jc bc => w_T xs xl 127 63 [some (.ref 0), some (w_i l1), some (w_i l2)] [] (w_pv v []) Ic Jc bc Q)) ∧ (¬ l2 = 1 → ((l2 = 2 → ((0 ≤ l1 ∧ l1 < 60) ∧ Q (some (w_i (I 24 l1))) I J b)) ∧ (¬ l2 = 2 → ((l2 = 3 → ((0 ≤ l1 ∧ l1 < 60) ∧ Q (some (w_i (I 25 l1))) I J b)) ∧ (¬ l2 = 3 → Q (some (w_i (-1))) I J b)))))))))) ∧ (s0 = 0 → Q (some (w_i (-1))) I J b)))) : w_T xs xl 127 8 [some (.ref 0), some (w_i l1), some (w_i l2)] [] [w_i s0] I J b Q := by
  obtain ⟨h1, k⟩ := k
  refine w_zne (t := 13) (q := 11) rfl rfl rfl h1 (fun c2 => ?_) (fun c2 => ?_)
  · replace k := k.1 c2
    refine w_iload_n (q := 14) rfl rfl rfl ?_
    obtain ⟨h3, k⟩ := k
    rcases Decidable.em (l2 = 0) with c4 | c4
    · replace k := k.1 c4
      refine w_tsw (t := 44) rfl h3 (by rw [c4]; rfl) ?_
      refine w_aload_n (q := 45) rfl rfl rfl ?_
      refine w_gfr (q := 48) rfl rfl rfl rfl (j := 20) rfl ?_
      refine w_iload_n (q := 49) rfl rfl rfl ?_
      refine w_iconst (q := 50) rfl rfl ?_
      refine w_callv (q := 53) rfl rfl rfl rfl rfl rfl ?_
      exact k
    · replace k := k.2 c4
      rcases Decidable.em (l2 = 1) with c5 | c5
      · replace k := k.1 c5
        refine w_tsw (t := 54) rfl h3 (by rw [c5]; rfl) ?_
        refine w_aload_n (q := 55) rfl rfl rfl ?_
        refine w_gfr (q := 58) rfl rfl rfl rfl (j := 20) rfl ?_
        refine w_iload_n (q := 59) rfl rfl rfl ?_
        refine w_iconst (q := 60) rfl rfl ?_
        refine w_callv (q := 63) rfl rfl rfl rfl rfl rfl ?_
        exact k
      · replace k := k.2 c5
        rcases Decidable.em (l2 = 2) with c6 | c6
        · replace k := k.1 c6
          refine w_tsw (t := 64) rfl h3 (by rw [c6]; rfl) ?_
          refine w_aload_n (q := 65) rfl rfl rfl ?_
          refine w_gfr (q := 68) rfl rfl rfl rfl (j := 20) rfl ?_
          refine w_gfr (q := 71) rfl rfl rfl rfl (j := 24) rfl ?_
          refine w_iload_n (q := 72) rfl rfl rfl ?_
          obtain ⟨h7, k⟩ := k
          refine w_iald (q := 73) (n := 60) (v := I 24 l1) rfl rfl rfl rfl rfl rfl h7 ?_
          exact w_iret rfl rfl k
        · replace k := k.2 c6
          rcases Decidable.em (l2 = 3) with c8 | c8
          · replace k := k.1 c8
            refine w_tsw (t := 74) rfl h3 (by rw [c8]; rfl) ?_
            refine w_aload_n (q := 75) rfl rfl rfl ?_
            refine w_gfr (q := 78) rfl rfl rfl rfl (j := 20) rfl ?_
            refine w_gfr (q := 81) rfl rfl rfl rfl (j := 25) rfl ?_
            refine w_iload_n (q := 82) rfl rfl rfl ?_
            obtain ⟨h9, k⟩ := k
            refine w_iald (q := 83) (n := 60) (v := I 25 l1) rfl rfl rfl rfl rfl rfl h9 ?_
            exact w_iret rfl rfl k
          · replace k := k.2 c8
            have hd : l2 < 0 ∨ 3 < l2 := by omega
            refine w_tsw (t := 84) rfl h3 (by rw [if_pos hd]; rfl) ?_
            refine w_iconst (q := 85) rfl rfl ?_
            exact w_iret rfl rfl k
  · replace k := k.2 c2
    refine w_iconst (q := 12) rfl rfl ?_
    exact w_iret rfl rfl k
theorem b127_53 {xs : Nat → Int32} {xl : Nat} {I J : w_I} {b : Bool} {Q : Option Value → w_I → w_I → Bool → Prop} {u1 u2 : Option Value} {s0 : Int} (k : Q (some (w_i s0)) I J b) : w_T xs xl 127 53 [some (.ref 0), u1, u2] [] [w_i s0] I J b Q := by
  exact w_iret rfl rfl k
theorem b127_63 {xs : Nat → Int32} {xl : Nat} {I J : w_I} {b : Bool} {Q : Option Value → w_I → w_I → Bool → Prop} {u1 u2 : Option Value} {s0 : Int} (k : Q (some (w_i s0)) I J b) : w_T xs xl 127 63 [some (.ref 0), u1, u2] [] [w_i s0] I J b Q := by
  exact w_iret rfl rfl k
theorem e128 {xs : Nat → Int32} {xl : Nat} {I J : w_I} {b : Bool} {Q : Option Value → w_I → w_I → Bool → Prop} {a1 a2 : Int} (t : w_T xs xl 128 0 [some (.ref 0), some (w_i a1), some (w_i a2)] [] [] I J b Q) : w_C xs xl 128 [.ref 0, w_i a1, w_i a2] I J b Q := w_en rfl t
theorem b128_0 {xs : Nat → Int32} {xl : Nat} {I J : w_I} {b : Bool} {Q : Option Value → w_I → w_I → Bool → Prop} {a1 a2 : Int} (k : w_C xs xl 6 [.ref 20, w_i a1] I J b (fun v Ic Jc bc => w_T xs xl 128 8 [some (.ref 0), some (w_i a1), some (w_i a2)] [] (w_pv v []) Ic Jc bc Q)) : w_T xs xl 128 0 [some (.ref 0), some (w_i a1), some (w_i a2)] [] [] I J b Q := by
  refine w_aload_n (q := 1) rfl rfl rfl ?_
  refine w_gfr (q := 4) rfl rfl rfl rfl (j := 20) rfl ?_
  refine w_iload_n (q := 5) rfl rfl rfl ?_
  refine w_callv (q := 8) rfl rfl rfl rfl rfl rfl ?_
  exact k
theorem b128_8 {xs : Nat → Int32} {xl : Nat} {I J : w_I} {b : Bool} {Q : Option Value → w_I → w_I → Bool → Prop} {l1 l2 s0 : Int} (k : ((-2147483648 ≤ s0 ∧ s0 < 2147483648) ∧ ((¬ s0 = 0 → w_C xs xl 21 [.ref 78] I J b (fun v Ic Jc bc => w_T xs xl 128 20 [some (.ref 0), some (w_i l1), some (w_i l2)] [] (w_pv v []) Ic Jc bc Q)) ∧ (s0 = 0 → Q (some (w_i (-1))) I J b)))) : w_T xs xl 128 8 [some (.ref 0), some (w_i l1), some (w_i l2)] [] [w_i s0] I J b Q := by
  obtain ⟨h1, k⟩ := k
  refine w_zne (t := 13) (q := 11) rfl rfl rfl h1 (fun c2 => ?_) (fun c2 => ?_)
  · replace k := k.1 c2
    refine w_aload_n (q := 14) rfl rfl rfl ?_
    refine w_gfr (q := 17) rfl rfl rfl rfl (j := 78) rfl ?_
    refine w_callv (q := 20) rfl rfl rfl rfl rfl rfl ?_
    exact k
  · replace k := k.2 c2
    refine w_iconst (q := 12) rfl rfl ?_
    exact w_iret rfl rfl k
theorem b128_20 {xs : Nat → Int32} {xl : Nat} {I J : w_I} {b : Bool} {Q : Option Value → w_I → w_I → Bool → Prop} {l1 l2 : Int} (k : ((-2147483648 ≤ l2 ∧ l2 < 2147483648) ∧ ((l2 = 0 → ((0 ≤ l1 ∧ l1 < 30) ∧ Q (some (w_i (I 26 l1))) I J b)) ∧ (¬ l2 = 0 → ((l2 = 1 → ((0 ≤ l1 ∧ l1 < 30) ∧ Q (some (w_i (I 82 l1))) I J b)) ∧ (¬ l2 = 1 → ((l2 = 2 → ((0 ≤ l1 ∧ l1 < 30) ∧ Q (some (w_i (I 83 l1))) I J b)) ∧ (¬ l2 = 2 → ((l2 = 3 → ((0 ≤ l1 ∧ l1 < 30) ∧ w_C xs xl 162 [w_i (I 28 l1)] I J b (fun v Ic Jc bc => w_T xs xl 128 102 [some (.ref 0), some (w_i l1), some (w_i l2)] [] (w_pv v []) Ic Jc bc Q))) ∧ (¬ l2 = 3 → ((l2 = 4 → ((0 ≤ l1 ∧ l1 < 30) ∧ w_C xs xl 162 [w_i (I 29 l1)] I J b (fun v Ic Jc bc => w_T xs xl 128 115 [some (.ref 0), some (w_i l1), some (w_i l2)] [] (w_pv v []) Ic Jc bc Q))) ∧ (¬ l2 = 4 → ((l2 = 5 → ((0 ≤ l1 ∧ l1 < 30) ∧ Q (some (w_i (I 27 l1))) I J b)) ∧ (¬ l2 = 5 → Q (some (w_i (-1))) I J b)))))))))))))) : w_T xs xl 128 20 [some (.ref 0), some (w_i l1), some (w_i l2)] [] [] I J b Q := by
  refine w_iload_n (q := 21) rfl rfl rfl ?_
  obtain ⟨h1, k⟩ := k
  rcases Decidable.em (l2 = 0) with c2 | c2
  · replace k := k.1 c2
    refine w_tsw (t := 60) rfl h1 (by rw [c2]; rfl) ?_
    refine w_aload_n (q := 61) rfl rfl rfl ?_
    refine w_gfr (q := 64) rfl rfl rfl rfl (j := 20) rfl ?_
    refine w_gfr (q := 67) rfl rfl rfl rfl (j := 26) rfl ?_
    refine w_iload_n (q := 68) rfl rfl rfl ?_
    obtain ⟨h3, k⟩ := k
    refine w_iald (q := 69) (n := 30) (v := I 26 l1) rfl rfl rfl rfl rfl rfl h3 ?_
    exact w_iret rfl rfl k
  · replace k := k.2 c2
    rcases Decidable.em (l2 = 1) with c4 | c4
    · replace k := k.1 c4
      refine w_tsw (t := 70) rfl h1 (by rw [c4]; rfl) ?_
      refine w_aload_n (q := 71) rfl rfl rfl ?_
      refine w_gfr (q := 74) rfl rfl rfl rfl (j := 78) rfl ?_
      refine w_gfr (q := 77) rfl rfl rfl rfl (j := 82) rfl ?_
      refine w_iload_n (q := 78) rfl rfl rfl ?_
      obtain ⟨h5, k⟩ := k
      refine w_iald (q := 79) (n := 30) (v := I 82 l1) rfl rfl rfl rfl rfl rfl h5 ?_
      exact w_iret rfl rfl k
    · replace k := k.2 c4
      rcases Decidable.em (l2 = 2) with c6 | c6
      · replace k := k.1 c6
        refine w_tsw (t := 80) rfl h1 (by rw [c6]; rfl) ?_
        refine w_aload_n (q := 81) rfl rfl rfl ?_
        refine w_gfr (q := 84) rfl rfl rfl rfl (j := 78) rfl ?_
        refine w_gfr (q := 87) rfl rfl rfl rfl (j := 83) rfl ?_
        refine w_iload_n (q := 88) rfl rfl rfl ?_
        obtain ⟨h7, k⟩ := k
        refine w_iald (q := 89) (n := 30) (v := I 83 l1) rfl rfl rfl rfl rfl rfl h7 ?_
        exact w_iret rfl rfl k
      · replace k := k.2 c6
        rcases Decidable.em (l2 = 3) with c8 | c8
        · replace k := k.1 c8
          refine w_tsw (t := 90) rfl h1 (by rw [c8]; rfl) ?_
          refine w_aload_n (q := 91) rfl rfl rfl ?_
          refine w_gfr (q := 94) rfl rfl rfl rfl (j := 20) rfl ?_
          refine w_gfr (q := 97) rfl rfl rfl rfl (j := 28) rfl ?_
          refine w_iload_n (q := 98) rfl rfl rfl ?_
          obtain ⟨h9, k⟩ := k
          refine w_iald (q := 99) (n := 30) (v := I 28 l1) rfl rfl rfl rfl rfl rfl h9 ?_
          refine w_call (q := 102) rfl rfl rfl rfl rfl ?_
          exact k
        · replace k := k.2 c8
          rcases Decidable.em (l2 = 4) with c10 | c10
          · replace k := k.1 c10
            refine w_tsw (t := 103) rfl h1 (by rw [c10]; rfl) ?_
            refine w_aload_n (q := 104) rfl rfl rfl ?_
            refine w_gfr (q := 107) rfl rfl rfl rfl (j := 20) rfl ?_
            refine w_gfr (q := 110) rfl rfl rfl rfl (j := 29) rfl ?_
            refine w_iload_n (q := 111) rfl rfl rfl ?_
            obtain ⟨h11, k⟩ := k
            refine w_iald (q := 112) (n := 30) (v := I 29 l1) rfl rfl rfl rfl rfl rfl h11 ?_
            refine w_call (q := 115) rfl rfl rfl rfl rfl ?_
            exact k
          · replace k := k.2 c10
            rcases Decidable.em (l2 = 5) with c12 | c12
            · replace k := k.1 c12
              refine w_tsw (t := 116) rfl h1 (by rw [c12]; rfl) ?_
              refine w_aload_n (q := 117) rfl rfl rfl ?_
              refine w_gfr (q := 120) rfl rfl rfl rfl (j := 20) rfl ?_
              refine w_gfr (q := 123) rfl rfl rfl rfl (j := 27) rfl ?_
              refine w_iload_n (q := 124) rfl rfl rfl ?_
              obtain ⟨h13, k⟩ := k
              refine w_iald (q := 125) (n := 30) (v := I 27 l1) rfl rfl rfl rfl rfl rfl h13 ?_
              exact w_iret rfl rfl k
            · replace k := k.2 c12
              have hd : l2 < 0 ∨ 5 < l2 := by omega
              refine w_tsw (t := 126) rfl h1 (by rw [if_pos hd]; rfl) ?_
              refine w_iconst (q := 127) rfl rfl ?_
              exact w_iret rfl rfl k
theorem b128_102 {xs : Nat → Int32} {xl : Nat} {I J : w_I} {b : Bool} {Q : Option Value → w_I → w_I → Bool → Prop} {u1 u2 : Option Value} {s0 : Int} (k : Q (some (w_i s0)) I J b) : w_T xs xl 128 102 [some (.ref 0), u1, u2] [] [w_i s0] I J b Q := by
  exact w_iret rfl rfl k
theorem b128_115 {xs : Nat → Int32} {xl : Nat} {I J : w_I} {b : Bool} {Q : Option Value → w_I → w_I → Bool → Prop} {u1 u2 : Option Value} {s0 : Int} (k : Q (some (w_i s0)) I J b) : w_T xs xl 128 115 [some (.ref 0), u1, u2] [] [w_i s0] I J b Q := by
  exact w_iret rfl rfl k
theorem e129 {xs : Nat → Int32} {xl : Nat} {I J : w_I} {b : Bool} {Q : Option Value → w_I → w_I → Bool → Prop} {a1 a2 : Int} (t : w_T xs xl 129 0 [some (.ref 0), some (w_i a1), some (w_i a2)] [] [] I J b Q) : w_C xs xl 129 [.ref 0, w_i a1, w_i a2] I J b Q := w_en rfl t
theorem b129_0 {xs : Nat → Int32} {xl : Nat} {I J : w_I} {b : Bool} {Q : Option Value → w_I → w_I → Bool → Prop} {a1 a2 : Int} (k : w_C xs xl 6 [.ref 20, w_i a1] I J b (fun v Ic Jc bc => w_T xs xl 129 8 [some (.ref 0), some (w_i a1), some (w_i a2)] [] (w_pv v []) Ic Jc bc Q)) : w_T xs xl 129 0 [some (.ref 0), some (w_i a1), some (w_i a2)] [] [] I J b Q := by
  refine w_aload_n (q := 1) rfl rfl rfl ?_
  refine w_gfr (q := 4) rfl rfl rfl rfl (j := 20) rfl ?_
  refine w_iload_n (q := 5) rfl rfl rfl ?_
  refine w_callv (q := 8) rfl rfl rfl rfl rfl rfl ?_
  exact k
theorem b129_8 {xs : Nat → Int32} {xl : Nat} {I J : w_I} {b : Bool} {Q : Option Value → w_I → w_I → Bool → Prop} {l1 l2 s0 : Int} (k : ((-2147483648 ≤ s0 ∧ s0 < 2147483648) ∧ ((¬ s0 = 0 → ((-2147483648 ≤ l2 ∧ l2 < 2147483648) ∧ ((¬ l2 = (-1) → w_C xs xl 156 [.ref 0, w_i l2] I J b (fun v Ic Jc bc => w_T xs xl 129 33 [some (.ref 0), some (w_i l1), some (w_i l2)] [] (w_pv v []) Ic Jc bc Q)) ∧ (l2 = (-1) → w_C xs xl 15 [.ref 20, w_i l1] I J b (fun v Ic Jc bc => w_T xs xl 129 26 [some (.ref 0), some (w_i l1), some (w_i l2)] [] (w_pv v []) Ic Jc bc Q))))) ∧ (s0 = 0 → Q (some (w_i 0)) I J b)))) : w_T xs xl 129 8 [some (.ref 0), some (w_i l1), some (w_i l2)] [] [w_i s0] I J b Q := by
  obtain ⟨h1, k⟩ := k
  refine w_zne (t := 13) (q := 11) rfl rfl rfl h1 (fun c2 => ?_) (fun c2 => ?_)
  · replace k := k.1 c2
    refine w_iload_n (q := 14) rfl rfl rfl ?_
    refine w_iconst (q := 15) rfl rfl ?_
    obtain ⟨h3, k⟩ := k
    refine w_cne (t := 28) (q := 18) rfl rfl rfl h3 (by decide) (fun c4 => ?_) (fun c4 => ?_)
    · replace k := k.1 c4
      refine w_aload_n (q := 29) rfl rfl rfl ?_
      refine w_iload_n (q := 30) rfl rfl rfl ?_
      refine w_callv (q := 33) rfl rfl rfl rfl rfl rfl ?_
      exact k
    · replace k := k.2 c4
      refine w_aload_n (q := 19) rfl rfl rfl ?_
      refine w_gfr (q := 22) rfl rfl rfl rfl (j := 20) rfl ?_
      refine w_iload_n (q := 23) rfl rfl rfl ?_
      refine w_callv (q := 26) rfl rfl rfl rfl rfl rfl ?_
      exact k
  · replace k := k.2 c2
    refine w_iconst (q := 12) rfl rfl ?_
    refine w_iret rfl rfl k
theorem b129_33 {xs : Nat → Int32} {xl : Nat} {I J : w_I} {b : Bool} {Q : Option Value → w_I → w_I → Bool → Prop} {l1 l2 s0 : Int} (k : ((-2147483648 ≤ s0 ∧ s0 < 2147483648) ∧ ((s0 = 0 → Q (some (w_i 0)) I J b) ∧ (¬ s0 = 0 → ((0 ≤ l2 ∧ l2 < 24) ∧ ((-2147483648 ≤ I 30 l2 ∧ I 30 l2 < 2147483648) ∧ ((I 30 l2 = (-1) → w_C xs xl 16 [.ref 20, w_i l1, w_i l2] I J b (fun v Ic Jc bc => w_T xs xl 129 60 [some (.ref 0), some (w_i l1), some (w_i l2)] [] (w_pv v []) Ic Jc bc Q)) ∧ (¬ I 30 l2 = (-1) → Q (some (w_i 0)) I J b)))))))) : w_T xs xl 129 33 [some (.ref 0), some (w_i l1), some (w_i l2)] [] [w_i s0] I J b Q := by
  obtain ⟨h1, k⟩ := k
  refine w_zeq (t := 49) (q := 36) rfl rfl rfl h1 (fun c2 => ?_) (fun c2 => ?_)
  · replace k := k.1 c2
    refine w_iconst (q := 50) rfl rfl ?_
    refine w_iret rfl rfl k
  · replace k := k.2 c2
    refine w_aload_n (q := 37) rfl rfl rfl ?_
    refine w_gfr (q := 40) rfl rfl rfl rfl (j := 20) rfl ?_
    refine w_gfr (q := 43) rfl rfl rfl rfl (j := 30) rfl ?_
    refine w_iload_n (q := 44) rfl rfl rfl ?_
    obtain ⟨h3, k⟩ := k
    refine w_iald (q := 45) (n := 24) (v := I 30 l2) rfl rfl rfl rfl rfl rfl h3 ?_
    refine w_iconst (q := 46) rfl rfl ?_
    obtain ⟨h4, k⟩ := k
    refine w_ceq (t := 51) (q := 49) rfl rfl rfl h4 (by decide) (fun c5 => ?_) (fun c5 => ?_)
    · replace k := k.1 c5
      refine w_aload_n (q := 52) rfl rfl rfl ?_
      refine w_gfr (q := 55) rfl rfl rfl rfl (j := 20) rfl ?_
      refine w_iload_n (q := 56) rfl rfl rfl ?_
      refine w_iload_n (q := 57) rfl rfl rfl ?_
      refine w_callv (q := 60) rfl rfl rfl rfl rfl rfl ?_
      exact k
    · replace k := k.2 c5
      refine w_iconst (q := 50) rfl rfl ?_
      refine w_iret rfl rfl k
theorem b129_26 {xs : Nat → Int32} {xl : Nat} {I J : w_I} {b : Bool} {Q : Option Value → w_I → w_I → Bool → Prop} {u1 u2 : Option Value} (k : Q (some (w_i 1)) I J b) : w_T xs xl 129 26 [some (.ref 0), u1, u2] [] [] I J b Q := by
  refine w_iconst (q := 27) rfl rfl ?_
  refine w_iret rfl rfl k
theorem b129_60 {xs : Nat → Int32} {xl : Nat} {I J : w_I} {b : Bool} {Q : Option Value → w_I → w_I → Bool → Prop} {u1 u2 : Option Value} (k : Q (some (w_i 1)) I J b) : w_T xs xl 129 60 [some (.ref 0), u1, u2] [] [] I J b Q := by
  refine w_iconst (q := 61) rfl rfl ?_
  refine w_iret rfl rfl k
theorem e130 {xs : Nat → Int32} {xl : Nat} {I J : w_I} {b : Bool} {Q : Option Value → w_I → w_I → Bool → Prop} {a1 a2 : Int} (t : w_T xs xl 130 0 [some (.ref 0), some (w_i a1), some (w_i a2)] [] [] I J b Q) : w_C xs xl 130 [.ref 0, w_i a1, w_i a2] I J b Q := w_en rfl t
theorem b130_0 {xs : Nat → Int32} {xl : Nat} {I J : w_I} {b : Bool} {Q : Option Value → w_I → w_I → Bool → Prop} {a1 a2 : Int} (k : w_C xs xl 6 [.ref 20, w_i a1] I J b (fun v Ic Jc bc => w_T xs xl 130 8 [some (.ref 0), some (w_i a1), some (w_i a2)] [] (w_pv v []) Ic Jc bc Q)) : w_T xs xl 130 0 [some (.ref 0), some (w_i a1), some (w_i a2)] [] [] I J b Q := by
  refine w_aload_n (q := 1) rfl rfl rfl ?_
  refine w_gfr (q := 4) rfl rfl rfl rfl (j := 20) rfl ?_
  refine w_iload_n (q := 5) rfl rfl rfl ?_
  refine w_callv (q := 8) rfl rfl rfl rfl rfl rfl ?_
  exact k
theorem b130_8 {xs : Nat → Int32} {xl : Nat} {I J : w_I} {b : Bool} {Q : Option Value → w_I → w_I → Bool → Prop} {l1 l2 s0 : Int} (k : ((-2147483648 ≤ s0 ∧ s0 < 2147483648) ∧ ((s0 = 0 → Q (some (w_i 0)) I J b) ∧ (¬ s0 = 0 → ((-2147483648 ≤ l2 ∧ l2 < 2147483648) ∧ ((l2 = (-1) → ((0 ≤ l1 ∧ l1 < 30) ∧ Q (some (w_i 1)) (w_U I 29 l1 l2) J b)) ∧ (¬ l2 = (-1) → w_C xs xl 156 [.ref 0, w_i l2] I J b (fun v Ic Jc bc => w_T xs xl 130 21 [some (.ref 0), some (w_i l1), some (w_i l2)] [] (w_pv v []) Ic Jc bc Q)))))))) : w_T xs xl 130 8 [some (.ref 0), some (w_i l1), some (w_i l2)] [] [w_i s0] I J b Q := by
  obtain ⟨h1, k⟩ := k
  refine w_zeq (t := 24) (q := 11) rfl rfl rfl h1 (fun c2 => ?_) (fun c2 => ?_)
  · replace k := k.1 c2
    refine w_iconst (q := 25) rfl rfl ?_
    refine w_iret rfl rfl k
  · replace k := k.2 c2
    refine w_iload_n (q := 12) rfl rfl rfl ?_
    refine w_iconst (q := 13) rfl rfl ?_
    obtain ⟨h3, k⟩ := k
    refine w_ceq (t := 26) (q := 16) rfl rfl rfl h3 (by decide) (fun c4 => ?_) (fun c4 => ?_)
    · replace k := k.1 c4
      refine w_aload_n (q := 27) rfl rfl rfl ?_
      refine w_gfr (q := 30) rfl rfl rfl rfl (j := 20) rfl ?_
      refine w_gfr (q := 33) rfl rfl rfl rfl (j := 29) rfl ?_
      refine w_iload_n (q := 34) rfl rfl rfl ?_
      refine w_iload_n (q := 35) rfl rfl rfl ?_
      obtain ⟨h5, k⟩ := k
      refine w_iast (q := 36) (n := 30) rfl rfl rfl rfl rfl h5 ?_
      refine w_iconst (q := 37) rfl rfl ?_
      refine w_iret rfl rfl k
    · replace k := k.2 c4
      refine w_aload_n (q := 17) rfl rfl rfl ?_
      refine w_iload_n (q := 18) rfl rfl rfl ?_
      refine w_callv (q := 21) rfl rfl rfl rfl rfl rfl ?_
      exact k
theorem b130_21 {xs : Nat → Int32} {xl : Nat} {I J : w_I} {b : Bool} {Q : Option Value → w_I → w_I → Bool → Prop} {l1 l2 s0 : Int} (k : ((-2147483648 ≤ s0 ∧ s0 < 2147483648) ∧ ((¬ s0 = 0 → ((0 ≤ l1 ∧ l1 < 30) ∧ Q (some (w_i 1)) (w_U I 29 l1 l2) J b)) ∧ (s0 = 0 → Q (some (w_i 0)) I J b)))) : w_T xs xl 130 21 [some (.ref 0), some (w_i l1), some (w_i l2)] [] [w_i s0] I J b Q := by
  obtain ⟨h1, k⟩ := k
  refine w_zne (t := 26) (q := 24) rfl rfl rfl h1 (fun c2 => ?_) (fun c2 => ?_)
  · replace k := k.1 c2
    refine w_aload_n (q := 27) rfl rfl rfl ?_
    refine w_gfr (q := 30) rfl rfl rfl rfl (j := 20) rfl ?_
    refine w_gfr (q := 33) rfl rfl rfl rfl (j := 29) rfl ?_
    refine w_iload_n (q := 34) rfl rfl rfl ?_
    refine w_iload_n (q := 35) rfl rfl rfl ?_
    obtain ⟨h3, k⟩ := k
    refine w_iast (q := 36) (n := 30) rfl rfl rfl rfl rfl h3 ?_
    refine w_iconst (q := 37) rfl rfl ?_
    refine w_iret rfl rfl k
  · replace k := k.2 c2
    refine w_iconst (q := 25) rfl rfl ?_
    refine w_iret rfl rfl k
theorem e131 {xs : Nat → Int32} {xl : Nat} {I J : w_I} {b : Bool} {Q : Option Value → w_I → w_I → Bool → Prop} {a1 : Int} (t : w_T xs xl 131 0 [some (.ref 0), some (w_i a1)] [] [] I J b Q) : w_C xs xl 131 [.ref 0, w_i a1] I J b Q := w_en rfl t
theorem b131_0 {xs : Nat → Int32} {xl : Nat} {I J : w_I} {b : Bool} {Q : Option Value → w_I → w_I → Bool → Prop} {a1 : Int} (k : ((-2147483648 ≤ a1 ∧ a1 < 2147483648) ∧ ((a1 < 0 → Q (some (w_i (-1))) I J b) ∧ (¬ a1 < 0 → ((240 < a1 → Q (some (w_i (-1))) I J b) ∧ (¬ 240 < a1 → ((-2147483648 ≤ I 20 15 + a1 ∧ I 20 15 + a1 < 2147483648) ∧ ((I 20 15 + a1 ≤ 1200 → Q (some (w_i (I 20 15 + a1))) (w_U I 20 15 (I 20 15 + a1)) J b) ∧ (¬ I 20 15 + a1 ≤ 1200 → Q (some (w_i (-1))) I J b))))))))) : w_T xs xl 131 0 [some (.ref 0), some (w_i a1)] [] [] I J b Q := by
  refine w_iload_n (q := 1) rfl rfl rfl ?_
  obtain ⟨h1, k⟩ := k
  refine w_zlt (t := 26) (q := 4) rfl rfl rfl h1 (fun c2 => ?_) (fun c2 => ?_)
  · replace k := k.1 c2
    refine w_iconst (q := 27) rfl rfl ?_
    exact w_iret rfl rfl k
  · replace k := k.2 c2
    refine w_iload_n (q := 5) rfl rfl rfl ?_
    refine w_sipush (q := 8) rfl rfl rfl ?_
    refine w_cgt (t := 26) (q := 11) rfl rfl rfl h1 (by decide) (fun c3 => ?_) (fun c3 => ?_)
    · replace k := k.1 c3
      refine w_iconst (q := 27) rfl rfl ?_
      exact w_iret rfl rfl k
    · replace k := k.2 c3
      refine w_aload_n (q := 12) rfl rfl rfl ?_
      refine w_gfr (q := 15) rfl rfl rfl rfl (j := 20) rfl ?_
      refine w_gfi (q := 18) (k' := 15) (v := I 20 15) rfl rfl rfl rfl rfl rfl rfl ?_
      refine w_iload_n (q := 19) rfl rfl rfl ?_
      refine w_iadd (q := 20) rfl rfl ?_
      refine w_sipush (q := 23) rfl rfl rfl ?_
      obtain ⟨h4, k⟩ := k
      refine w_cle (t := 28) (q := 26) rfl rfl rfl h4 (by decide) (fun c5 => ?_) (fun c5 => ?_)
      · replace k := k.1 c5
        refine w_aload_n (q := 29) rfl rfl rfl ?_
        refine w_gfr (q := 32) rfl rfl rfl rfl (j := 20) rfl ?_
        refine w_dup (q := 33) rfl rfl rfl ?_
        refine w_gfi (q := 36) (k' := 15) (v := I 20 15) rfl rfl rfl rfl rfl rfl rfl ?_
        refine w_iload_n (q := 37) rfl rfl rfl ?_
        refine w_iadd (q := 38) rfl rfl ?_
        refine w_pfi (q := 41) (k' := 15) rfl rfl rfl rfl ?_
        refine w_aload_n (q := 42) rfl rfl rfl ?_
        refine w_gfr (q := 45) rfl rfl rfl rfl (j := 20) rfl ?_
        refine w_gfi (q := 48) (k' := 15) (v := I 20 15 + a1) rfl rfl rfl rfl rfl rfl rfl ?_
        exact w_iret rfl rfl k
      · replace k := k.2 c5
        refine w_iconst (q := 27) rfl rfl ?_
        exact w_iret rfl rfl k
theorem e132 {xs : Nat → Int32} {xl : Nat} {I J : w_I} {b : Bool} {Q : Option Value → w_I → w_I → Bool → Prop} {a1 : Int} (t : w_T xs xl 132 0 [some (.ref 0), some (w_i a1), none] [] [] I J b Q) : w_C xs xl 132 [.ref 0, w_i a1] I J b Q := w_en rfl t
theorem b132_0 {xs : Nat → Int32} {xl : Nat} {I J : w_I} {b : Bool} {Q : Option Value → w_I → w_I → Bool → Prop} {a1 : Int} (k : ((-2147483648 ≤ a1 ∧ a1 < 2147483648) ∧ ((a1 < 0 → Q (some (w_i (-1))) I J b) ∧ (¬ a1 < 0 → ((a1 ≤ 2 → ((¬ a1 = 2 → ((¬ a1 = 1 → w_C xs xl 22 [.ref 78, w_i (I 2 10), w_i 0, w_i (I 2 6)] I J b (fun v Ic Jc bc => w_T xs xl 132 67 [some (.ref 0), some (w_i a1), some (w_i (I 2 10))] [] (w_pv v []) Ic Jc bc Q)) ∧ (a1 = 1 → w_C xs xl 22 [.ref 78, w_i (I 2 10), w_i 1, w_i (I 2 6)] I J b (fun v Ic Jc bc => w_T xs xl 132 67 [some (.ref 0), some (w_i a1), some (w_i (I 2 10))] [] (w_pv v []) Ic Jc bc Q)))) ∧ (a1 = 2 → ((-2147483648 ≤ I 2 10 ∧ I 2 10 < 2147483648) ∧ ((¬ I 2 10 = 0 → ((¬ a1 = 1 → w_C xs xl 22 [.ref 78, w_i 0, w_i 0, w_i (I 2 6)] I J b (fun v Ic Jc bc => w_T xs xl 132 67 [some (.ref 0), some (w_i a1), some (w_i 0)] [] (w_pv v []) Ic Jc bc Q)) ∧ (a1 = 1 → w_C xs xl 22 [.ref 78, w_i 0, w_i 1, w_i (I 2 6)] I J b (fun v Ic Jc bc => w_T xs xl 132 67 [some (.ref 0), some (w_i a1), some (w_i 0)] [] (w_pv v []) Ic Jc bc Q)))) ∧ (I 2 10 = 0 → ((¬ a1 = 1 → w_C xs xl 22 [.ref 78, w_i 1, w_i 0, w_i (I 2 6)] I J b (fun v Ic Jc bc => w_T xs xl 132 67 [some (.ref 0), some (w_i a1), some (w_i 1)] [] (w_pv v []) Ic Jc bc Q)) ∧ (a1 = 1 → w_C xs xl 22 [.ref 78, w_i 1, w_i 1, w_i (I 2 6)] I J b (fun v Ic Jc bc => w_T xs xl 132 67 [some (.ref 0), some (w_i a1), some (w_i 1)] [] (w_pv v []) Ic Jc bc Q))))))))) ∧ (¬ a1 ≤ 2 → Q (some (w_i (-1))) I J b)))))) : w_T xs xl 132 0 [some (.ref 0), some (w_i a1), none] [] [] I J b Q := by
  refine w_iload_n (q := 1) rfl rfl rfl ?_
  obtain ⟨h1, k⟩ := k
  refine w_zlt (t := 9) (q := 4) rfl rfl rfl h1 (fun c2 => ?_) (fun c2 => ?_)
  · replace k := k.1 c2
    refine w_iconst (q := 10) rfl rfl ?_
    exact w_iret rfl rfl k
  · replace k := k.2 c2
    refine w_iload_n (q := 5) rfl rfl rfl ?_
    refine w_iconst (q := 6) rfl rfl ?_
    refine w_cle (t := 11) (q := 9) rfl rfl rfl h1 (by decide) (fun c3 => ?_) (fun c3 => ?_)
    · replace k := k.1 c3
      refine w_iload_n (q := 12) rfl rfl rfl ?_
      refine w_iconst (q := 13) rfl rfl ?_
      refine w_cne (t := 34) (q := 16) rfl rfl rfl h1 (by decide) (fun c4 => ?_) (fun c4 => ?_)
      · replace k := k.1 c4
        refine w_aload_n (q := 35) rfl rfl rfl ?_
        refine w_gfr (q := 38) rfl rfl rfl rfl (j := 2) rfl ?_
        refine w_gfi (q := 41) (k' := 10) (v := I 2 10) rfl rfl rfl rfl rfl rfl rfl ?_
        refine w_istore_n (q := 42) (L' := [some (.ref 0), some (w_i a1), some (w_i (I 2 10))]) (M' := []) rfl rfl rfl rfl rfl ?_
        refine w_aload_n (q := 43) rfl rfl rfl ?_
        refine w_gfr (q := 46) rfl rfl rfl rfl (j := 78) rfl ?_
        refine w_iload_n (q := 47) rfl rfl rfl ?_
        refine w_iload_n (q := 48) rfl rfl rfl ?_
        refine w_iconst (q := 49) rfl rfl ?_
        refine w_cne (t := 56) (q := 52) rfl rfl rfl h1 (by decide) (fun c5 => ?_) (fun c5 => ?_)
        · replace k := k.1 c5
          refine w_iconst (q := 57) rfl rfl ?_
          refine w_aload_n (q := 58) rfl rfl rfl ?_
          refine w_gfr (q := 61) rfl rfl rfl rfl (j := 2) rfl ?_
          refine w_gfi (q := 64) (k' := 6) (v := I 2 6) rfl rfl rfl rfl rfl rfl rfl ?_
          refine w_callv (q := 67) rfl rfl rfl rfl rfl rfl ?_
          exact k
        · replace k := k.2 c5
          refine w_iconst (q := 53) rfl rfl ?_
          refine w_goto (t := 57) rfl rfl ?_
          refine w_aload_n (q := 58) rfl rfl rfl ?_
          refine w_gfr (q := 61) rfl rfl rfl rfl (j := 2) rfl ?_
          refine w_gfi (q := 64) (k' := 6) (v := I 2 6) rfl rfl rfl rfl rfl rfl rfl ?_
          refine w_callv (q := 67) rfl rfl rfl rfl rfl rfl ?_
          exact k
      · replace k := k.2 c4
        refine w_aload_n (q := 17) rfl rfl rfl ?_
        refine w_gfr (q := 20) rfl rfl rfl rfl (j := 2) rfl ?_
        refine w_gfi (q := 23) (k' := 10) (v := I 2 10) rfl rfl rfl rfl rfl rfl rfl ?_
        obtain ⟨h6, k⟩ := k
        refine w_zne (t := 30) (q := 26) rfl rfl rfl h6 (fun c7 => ?_) (fun c7 => ?_)
        · replace k := k.1 c7
          refine w_iconst (q := 31) rfl rfl ?_
          refine w_goto (t := 41) rfl rfl ?_
          refine w_istore_n (q := 42) (L' := [some (.ref 0), some (w_i a1), some (w_i 0)]) (M' := []) rfl rfl rfl rfl rfl ?_
          refine w_aload_n (q := 43) rfl rfl rfl ?_
          refine w_gfr (q := 46) rfl rfl rfl rfl (j := 78) rfl ?_
          refine w_iload_n (q := 47) rfl rfl rfl ?_
          refine w_iload_n (q := 48) rfl rfl rfl ?_
          refine w_iconst (q := 49) rfl rfl ?_
          refine w_cne (t := 56) (q := 52) rfl rfl rfl h1 (by decide) (fun c8 => ?_) (fun c8 => ?_)
          · replace k := k.1 c8
            refine w_iconst (q := 57) rfl rfl ?_
            refine w_aload_n (q := 58) rfl rfl rfl ?_
            refine w_gfr (q := 61) rfl rfl rfl rfl (j := 2) rfl ?_
            refine w_gfi (q := 64) (k' := 6) (v := I 2 6) rfl rfl rfl rfl rfl rfl rfl ?_
            refine w_callv (q := 67) rfl rfl rfl rfl rfl rfl ?_
            exact k
          · replace k := k.2 c8
            refine w_iconst (q := 53) rfl rfl ?_
            refine w_goto (t := 57) rfl rfl ?_
            refine w_aload_n (q := 58) rfl rfl rfl ?_
            refine w_gfr (q := 61) rfl rfl rfl rfl (j := 2) rfl ?_
            refine w_gfi (q := 64) (k' := 6) (v := I 2 6) rfl rfl rfl rfl rfl rfl rfl ?_
            refine w_callv (q := 67) rfl rfl rfl rfl rfl rfl ?_
            exact k
        · replace k := k.2 c7
          refine w_iconst (q := 27) rfl rfl ?_
          refine w_goto (t := 41) rfl rfl ?_
          refine w_istore_n (q := 42) (L' := [some (.ref 0), some (w_i a1), some (w_i 1)]) (M' := []) rfl rfl rfl rfl rfl ?_
          refine w_aload_n (q := 43) rfl rfl rfl ?_
          refine w_gfr (q := 46) rfl rfl rfl rfl (j := 78) rfl ?_
          refine w_iload_n (q := 47) rfl rfl rfl ?_
          refine w_iload_n (q := 48) rfl rfl rfl ?_
          refine w_iconst (q := 49) rfl rfl ?_
          refine w_cne (t := 56) (q := 52) rfl rfl rfl h1 (by decide) (fun c9 => ?_) (fun c9 => ?_)
          · replace k := k.1 c9
            refine w_iconst (q := 57) rfl rfl ?_
            refine w_aload_n (q := 58) rfl rfl rfl ?_
            refine w_gfr (q := 61) rfl rfl rfl rfl (j := 2) rfl ?_
            refine w_gfi (q := 64) (k' := 6) (v := I 2 6) rfl rfl rfl rfl rfl rfl rfl ?_
            refine w_callv (q := 67) rfl rfl rfl rfl rfl rfl ?_
            exact k
          · replace k := k.2 c9
            refine w_iconst (q := 53) rfl rfl ?_
            refine w_goto (t := 57) rfl rfl ?_
            refine w_aload_n (q := 58) rfl rfl rfl ?_
            refine w_gfr (q := 61) rfl rfl rfl rfl (j := 2) rfl ?_
            refine w_gfi (q := 64) (k' := 6) (v := I 2 6) rfl rfl rfl rfl rfl rfl rfl ?_
            refine w_callv (q := 67) rfl rfl rfl rfl rfl rfl ?_
            exact k
    · replace k := k.2 c3
      refine w_iconst (q := 10) rfl rfl ?_
      exact w_iret rfl rfl k
theorem b132_67 {xs : Nat → Int32} {xl : Nat} {I J : w_I} {b : Bool} {Q : Option Value → w_I → w_I → Bool → Prop} {u1 u2 : Option Value} (k : w_C xs xl 25 [.ref 78, w_i (-1)] I J b (fun v Ic Jc bc => w_T xs xl 132 75 [some (.ref 0), u1, u2] [] (w_pv v []) Ic Jc bc Q)) : w_T xs xl 132 67 [some (.ref 0), u1, u2] [] [] I J b Q := by
  refine w_aload_n (q := 68) rfl rfl rfl ?_
  refine w_gfr (q := 71) rfl rfl rfl rfl (j := 78) rfl ?_
  refine w_iconst (q := 72) rfl rfl ?_
  refine w_callv (q := 75) rfl rfl rfl rfl rfl rfl ?_
  exact k
theorem b132_75 {xs : Nat → Int32} {xl : Nat} {I J : w_I} {b : Bool} {Q : Option Value → w_I → w_I → Bool → Prop} {u1 u2 : Option Value} {s0 : Int} (k : Q (some (w_i (I 78 7))) I J b) : w_T xs xl 132 75 [some (.ref 0), u1, u2] [] [w_i s0] I J b Q := by
  refine w_pop (q := 76) rfl rfl rfl ?_
  refine w_aload_n (q := 77) rfl rfl rfl ?_
  refine w_gfr (q := 80) rfl rfl rfl rfl (j := 78) rfl ?_
  refine w_gfi (q := 83) (k' := 7) (v := I 78 7) rfl rfl rfl rfl rfl rfl rfl ?_
  exact w_iret rfl rfl k
theorem e133 {xs : Nat → Int32} {xl : Nat} {I J : w_I} {b : Bool} {Q : Option Value → w_I → w_I → Bool → Prop} {a1 : Int} (t : w_T xs xl 133 0 [some (.ref 0), some (w_i a1)] [] [] I J b Q) : w_C xs xl 133 [.ref 0, w_i a1] I J b Q := w_en rfl t
theorem b133_0 {xs : Nat → Int32} {xl : Nat} {I J : w_I} {b : Bool} {Q : Option Value → w_I → w_I → Bool → Prop} {a1 : Int} (k : ((-2147483648 ≤ a1 ∧ a1 < 2147483648) ∧ ((0 ≤ a1 → w_C xs xl 21 [.ref 78] I J b (fun v Ic Jc bc => w_T xs xl 133 13 [some (.ref 0), some (w_i a1)] [] (w_pv v []) Ic Jc bc Q)) ∧ (¬ 0 ≤ a1 → Q (some (w_i (-1))) I J b)))) : w_T xs xl 133 0 [some (.ref 0), some (w_i a1)] [] [] I J b Q := by
  refine w_iload_n (q := 1) rfl rfl rfl ?_
  obtain ⟨h1, k⟩ := k
  refine w_zge (t := 6) (q := 4) rfl rfl rfl h1 (fun c2 => ?_) (fun c2 => ?_)
  · replace k := k.1 c2
    refine w_aload_n (q := 7) rfl rfl rfl ?_
    refine w_gfr (q := 10) rfl rfl rfl rfl (j := 78) rfl ?_
    refine w_callv (q := 13) rfl rfl rfl rfl rfl rfl ?_
    exact k
  · replace k := k.2 c2
    refine w_iconst (q := 5) rfl rfl ?_
    exact w_iret rfl rfl k
theorem b133_13 {xs : Nat → Int32} {xl : Nat} {I J : w_I} {b : Bool} {Q : Option Value → w_I → w_I → Bool → Prop} {l1 : Int} (k : w_C xs xl 25 [.ref 78, w_i l1] I J b (fun v Ic Jc bc => w_T xs xl 133 21 [some (.ref 0), some (w_i l1)] [] (w_pv v []) Ic Jc bc Q)) : w_T xs xl 133 13 [some (.ref 0), some (w_i l1)] [] [] I J b Q := by
  refine w_aload_n (q := 14) rfl rfl rfl ?_
  refine w_gfr (q := 17) rfl rfl rfl rfl (j := 78) rfl ?_
  refine w_iload_n (q := 18) rfl rfl rfl ?_
  refine w_callv (q := 21) rfl rfl rfl rfl rfl rfl ?_
  exact k
theorem b133_21 {xs : Nat → Int32} {xl : Nat} {I J : w_I} {b : Bool} {Q : Option Value → w_I → w_I → Bool → Prop} {u1 : Option Value} {s0 : Int} (k : Q (some (w_i s0)) I J b) : w_T xs xl 133 21 [some (.ref 0), u1] [] [w_i s0] I J b Q := by
  exact w_iret rfl rfl k
theorem e134 {xs : Nat → Int32} {xl : Nat} {I J : w_I} {b : Bool} {Q : Option Value → w_I → w_I → Bool → Prop} {a1 : Int} (t : w_T xs xl 134 0 [some (.ref 0), some (w_i a1)] [] [] I J b Q) : w_C xs xl 134 [.ref 0, w_i a1] I J b Q := w_en rfl t
theorem b134_0 {xs : Nat → Int32} {xl : Nat} {I J : w_I} {b : Bool} {Q : Option Value → w_I → w_I → Bool → Prop} {a1 : Int} (k : w_C xs xl 21 [.ref 78] I J b (fun v Ic Jc bc => w_T xs xl 134 7 [some (.ref 0), some (w_i a1)] [] (w_pv v []) Ic Jc bc Q)) : w_T xs xl 134 0 [some (.ref 0), some (w_i a1)] [] [] I J b Q := by
  refine w_aload_n (q := 1) rfl rfl rfl ?_
  refine w_gfr (q := 4) rfl rfl rfl rfl (j := 78) rfl ?_
  refine w_callv (q := 7) rfl rfl rfl rfl rfl rfl ?_
  exact k
theorem b134_7 {xs : Nat → Int32} {xl : Nat} {I J : w_I} {b : Bool} {Q : Option Value → w_I → w_I → Bool → Prop} {l1 : Int} (k : w_C xs xl 23 [.ref 78, w_i (-1)] I J b (fun v Ic Jc bc => w_T xs xl 134 15 [some (.ref 0), some (w_i l1)] [] (w_pv v []) Ic Jc bc Q)) : w_T xs xl 134 7 [some (.ref 0), some (w_i l1)] [] [] I J b Q := by
  refine w_aload_n (q := 8) rfl rfl rfl ?_
  refine w_gfr (q := 11) rfl rfl rfl rfl (j := 78) rfl ?_
  refine w_iconst (q := 12) rfl rfl ?_
  refine w_callv (q := 15) rfl rfl rfl rfl rfl rfl ?_
  exact k
theorem b134_15 {xs : Nat → Int32} {xl : Nat} {I J : w_I} {b : Bool} {Q : Option Value → w_I → w_I → Bool → Prop} {l1 : Int} (k : ((-2147483648 ≤ l1 ∧ l1 < 2147483648) ∧ ((l1 < 0 → Q (some (w_i (-1))) I J b) ∧ (¬ l1 < 0 → ((-2147483648 ≤ I 78 6 ∧ I 78 6 < 2147483648) ∧ ((l1 < I 78 6 → ((0 ≤ l1 ∧ l1 < 25) ∧ Q (some (w_i (I 84 l1))) I J b)) ∧ (¬ l1 < I 78 6 → Q (some (w_i (-1))) I J b))))))) : w_T xs xl 134 15 [some (.ref 0), some (w_i l1)] [] [] I J b Q := by
  refine w_iload_n (q := 16) rfl rfl rfl ?_
  obtain ⟨h1, k⟩ := k
  refine w_zlt (t := 30) (q := 19) rfl rfl rfl h1 (fun c2 => ?_) (fun c2 => ?_)
  · replace k := k.1 c2
    refine w_iconst (q := 31) rfl rfl ?_
    refine w_goto (t := 43) rfl rfl ?_
    exact w_iret rfl rfl k
  · replace k := k.2 c2
    refine w_iload_n (q := 20) rfl rfl rfl ?_
    refine w_aload_n (q := 21) rfl rfl rfl ?_
    refine w_gfr (q := 24) rfl rfl rfl rfl (j := 78) rfl ?_
    refine w_gfi (q := 27) (k' := 6) (v := I 78 6) rfl rfl rfl rfl rfl rfl rfl ?_
    obtain ⟨h3, k⟩ := k
    refine w_clt (t := 34) (q := 30) rfl rfl rfl h1 h3 (fun c4 => ?_) (fun c4 => ?_)
    · replace k := k.1 c4
      refine w_aload_n (q := 35) rfl rfl rfl ?_
      refine w_gfr (q := 38) rfl rfl rfl rfl (j := 78) rfl ?_
      refine w_gfr (q := 41) rfl rfl rfl rfl (j := 84) rfl ?_
      refine w_iload_n (q := 42) rfl rfl rfl ?_
      obtain ⟨h5, k⟩ := k
      refine w_iald (q := 43) (n := 25) (v := I 84 l1) rfl rfl rfl rfl rfl rfl h5 ?_
      exact w_iret rfl rfl k
    · replace k := k.2 c4
      refine w_iconst (q := 31) rfl rfl ?_
      refine w_goto (t := 43) rfl rfl ?_
      exact w_iret rfl rfl k
theorem e135 {xs : Nat → Int32} {xl : Nat} {I J : w_I} {b : Bool} {Q : Option Value → w_I → w_I → Bool → Prop} {a1 a2 : Int} (t : w_T xs xl 135 0 [some (.ref 0), some (w_i a1), some (w_i a2)] [] [] I J b Q) : w_C xs xl 135 [.ref 0, w_i a1, w_i a2] I J b Q := w_en rfl t
theorem b135_0 {xs : Nat → Int32} {xl : Nat} {I J : w_I} {b : Bool} {Q : Option Value → w_I → w_I → Bool → Prop} {a1 a2 : Int} (k : w_C xs xl 158 [.ref 0, w_i a1] I J b (fun v Ic Jc bc => w_T xs xl 135 5 [some (.ref 0), some (w_i a1), some (w_i a2)] [] (w_pv v []) Ic Jc bc Q)) : w_T xs xl 135 0 [some (.ref 0), some (w_i a1), some (w_i a2)] [] [] I J b Q := by
  refine w_aload_n (q := 1) rfl rfl rfl ?_
  refine w_iload_n (q := 2) rfl rfl rfl ?_
  refine w_callv (q := 5) rfl rfl rfl rfl rfl rfl ?_
  exact k
theorem b135_5 {xs : Nat → Int32} {xl : Nat} {I J : w_I} {b : Bool} {Q : Option Value → w_I → w_I → Bool → Prop} {l1 l2 s0 : Int} (k : ((-2147483648 ≤ s0 ∧ s0 < 2147483648) ∧ ((s0 = 0 → Q (some (w_i (-1))) I J b) ∧ (¬ s0 = 0 → ((-2147483648 ≤ l2 ∧ l2 < 2147483648) ∧ ((l2 < 0 → Q (some (w_i (-1))) I J b) ∧ (¬ l2 < 0 → ((l2 ≤ 2 → w_C xs xl 33 [.ref 85, w_i l1] I J b (fun v Ic Jc bc => w_T xs xl 135 27 [some (.ref 0), some (w_i l1), some (w_i l2)] [] (w_pv v []) Ic Jc bc Q)) ∧ (¬ l2 ≤ 2 → Q (some (w_i (-1))) I J b))))))))) : w_T xs xl 135 5 [some (.ref 0), some (w_i l1), some (w_i l2)] [] [w_i s0] I J b Q := by
  obtain ⟨h1, k⟩ := k
  refine w_zeq (t := 17) (q := 8) rfl rfl rfl h1 (fun c2 => ?_) (fun c2 => ?_)
  · replace k := k.1 c2
    refine w_iconst (q := 18) rfl rfl ?_
    exact w_iret rfl rfl k
  · replace k := k.2 c2
    refine w_iload_n (q := 9) rfl rfl rfl ?_
    obtain ⟨h3, k⟩ := k
    refine w_zlt (t := 17) (q := 12) rfl rfl rfl h3 (fun c4 => ?_) (fun c4 => ?_)
    · replace k := k.1 c4
      refine w_iconst (q := 18) rfl rfl ?_
      exact w_iret rfl rfl k
    · replace k := k.2 c4
      refine w_iload_n (q := 13) rfl rfl rfl ?_
      refine w_iconst (q := 14) rfl rfl ?_
      refine w_cle (t := 19) (q := 17) rfl rfl rfl h3 (by decide) (fun c5 => ?_) (fun c5 => ?_)
      · replace k := k.1 c5
        refine w_aload_n (q := 20) rfl rfl rfl ?_
        refine w_gfr (q := 23) rfl rfl rfl rfl (j := 85) rfl ?_
        refine w_iload_n (q := 24) rfl rfl rfl ?_
        refine w_callv (q := 27) rfl rfl rfl rfl rfl rfl ?_
        exact k
      · replace k := k.2 c5
        refine w_iconst (q := 18) rfl rfl ?_
        exact w_iret rfl rfl k
theorem b135_27 {xs : Nat → Int32} {xl : Nat} {I J : w_I} {b : Bool} {Q : Option Value → w_I → w_I → Bool → Prop} {u1 : Option Value} {l2 s0 : Int} (k : ((-2147483648 ≤ s0 ∧ s0 < 2147483648) ∧ ((¬ s0 = 0 → ((-2147483648 ≤ l2 ∧ l2 < 2147483648) ∧ ((l2 = 0 → Q (some (w_i (I 85 4))) I J b) ∧ (¬ l2 = 0 → ((l2 = 1 → Q (some (w_i (I 85 5))) I J b) ∧ (¬ l2 = 1 → w_C xs xl 159 [.ref 0, w_i (I 85 4)] I J b (fun v Ic Jc bc => w_T xs xl 135 87 [some (.ref 0), u1, some (w_i l2)] [] (w_pv v []) Ic Jc bc Q))))))) ∧ (s0 = 0 → Q (some (w_i (-2))) I J b)))) : w_T xs xl 135 27 [some (.ref 0), u1, some (w_i l2)] [] [w_i s0] I J b Q := by
  obtain ⟨h1, k⟩ := k
  refine w_zne (t := 33) (q := 30) rfl rfl rfl h1 (fun c2 => ?_) (fun c2 => ?_)
  · replace k := k.1 c2
    refine w_iload_n (q := 34) rfl rfl rfl ?_
    obtain ⟨h3, k⟩ := k
    rcases Decidable.em (l2 = 0) with c4 | c4
    · replace k := k.1 c4
      refine w_lsw (t := 60) rfl h3 (by rw [c4]; rfl) ?_
      refine w_aload_n (q := 61) rfl rfl rfl ?_
      refine w_gfr (q := 64) rfl rfl rfl rfl (j := 85) rfl ?_
      refine w_gfi (q := 67) (k' := 4) (v := I 85 4) rfl rfl rfl rfl rfl rfl rfl ?_
      exact w_iret rfl rfl k
    · replace k := k.2 c4
      rcases Decidable.em (l2 = 1) with c5 | c5
      · replace k := k.1 c5
        refine w_lsw (t := 68) rfl h3 (by rw [c5]; rfl) ?_
        refine w_aload_n (q := 69) rfl rfl rfl ?_
        refine w_gfr (q := 72) rfl rfl rfl rfl (j := 85) rfl ?_
        refine w_gfi (q := 75) (k' := 5) (v := I 85 5) rfl rfl rfl rfl rfl rfl rfl ?_
        exact w_iret rfl rfl k
      · replace k := k.2 c5
        refine w_lsw (t := 76) rfl h3 (by simp only [Op.lookupswitch.offset]; rw [if_neg (fun h => c4 h.symm), if_neg (fun h => c5 h.symm)]; rfl) ?_
        refine w_aload_n (q := 77) rfl rfl rfl ?_
        refine w_aload_n (q := 78) rfl rfl rfl ?_
        refine w_gfr (q := 81) rfl rfl rfl rfl (j := 85) rfl ?_
        refine w_gfi (q := 84) (k' := 4) (v := I 85 4) rfl rfl rfl rfl rfl rfl rfl ?_
        refine w_callv (q := 87) rfl rfl rfl rfl rfl rfl ?_
        exact k
  · replace k := k.2 c2
    refine w_bipush (q := 32) rfl rfl rfl ?_
    exact w_iret rfl rfl k
theorem b135_87 {xs : Nat → Int32} {xl : Nat} {I J : w_I} {b : Bool} {Q : Option Value → w_I → w_I → Bool → Prop} {u1 u2 : Option Value} {s0 : Int} (k : Q (some (w_i s0)) I J b) : w_T xs xl 135 87 [some (.ref 0), u1, u2] [] [w_i s0] I J b Q := by
  exact w_iret rfl rfl k
theorem e136 {xs : Nat → Int32} {xl : Nat} {I J : w_I} {b : Bool} {Q : Option Value → w_I → w_I → Bool → Prop} {a1 a2 : Int} (t : w_T xs xl 136 0 [some (.ref 0), some (w_i a1), some (w_i a2)] [] [] I J b Q) : w_C xs xl 136 [.ref 0, w_i a1, w_i a2] I J b Q := w_en rfl t
theorem b136_0 {xs : Nat → Int32} {xl : Nat} {I J : w_I} {b : Bool} {Q : Option Value → w_I → w_I → Bool → Prop} {a1 a2 : Int} (k : w_C xs xl 158 [.ref 0, w_i a1] I J b (fun v Ic Jc bc => w_T xs xl 136 5 [some (.ref 0), some (w_i a1), some (w_i a2)] [] (w_pv v []) Ic Jc bc Q)) : w_T xs xl 136 0 [some (.ref 0), some (w_i a1), some (w_i a2)] [] [] I J b Q := by
  refine w_aload_n (q := 1) rfl rfl rfl ?_
  refine w_iload_n (q := 2) rfl rfl rfl ?_
  refine w_callv (q := 5) rfl rfl rfl rfl rfl rfl ?_
  exact k
theorem b136_5 {xs : Nat → Int32} {xl : Nat} {I J : w_I} {b : Bool} {Q : Option Value → w_I → w_I → Bool → Prop} {l1 l2 s0 : Int} (k : ((-2147483648 ≤ s0 ∧ s0 < 2147483648) ∧ ((s0 = 0 → Q (some (w_i (-1))) I J b) ∧ (¬ s0 = 0 → w_C xs xl 6 [.ref 20, w_i l2] I J b (fun v Ic Jc bc => w_T xs xl 136 16 [some (.ref 0), some (w_i l1), some (w_i l2)] [] (w_pv v []) Ic Jc bc Q))))) : w_T xs xl 136 5 [some (.ref 0), some (w_i l1), some (w_i l2)] [] [w_i s0] I J b Q := by
  obtain ⟨h1, k⟩ := k
  refine w_zeq (t := 19) (q := 8) rfl rfl rfl h1 (fun c2 => ?_) (fun c2 => ?_)
  · replace k := k.1 c2
    refine w_iconst (q := 20) rfl rfl ?_
    exact w_iret rfl rfl k
  · replace k := k.2 c2
    refine w_aload_n (q := 9) rfl rfl rfl ?_
    refine w_gfr (q := 12) rfl rfl rfl rfl (j := 20) rfl ?_
    refine w_iload_n (q := 13) rfl rfl rfl ?_
    refine w_callv (q := 16) rfl rfl rfl rfl rfl rfl ?_
    exact k
theorem b136_16 {xs : Nat → Int32} {xl : Nat} {I J : w_I} {b : Bool} {Q : Option Value → w_I → w_I → Bool → Prop} {l1 l2 s0 : Int} (k : ((-2147483648 ≤ s0 ∧ s0 < 2147483648) ∧ ((¬ s0 = 0 → ((-2147483648 ≤ l2 ∧ l2 < 2147483648) ∧ (-2147483648 ≤ l1 ∧ l1 < 2147483648) ∧ ((l2 = l1 → w_C xs xl 33 [.ref 85, w_i l1] I J b (fun v Ic Jc bc => w_T xs xl 136 49 [some (.ref 0), some (w_i l1), some (w_i l2)] [] (w_pv v []) Ic Jc bc Q)) ∧ (¬ l2 = l1 → ((0 ≤ l2 ∧ l2 < 30) ∧ ((-2147483648 ≤ I 28 l2 ∧ I 28 l2 < 2147483648) ∧ ((¬ I 28 l2 = (-1) → w_C xs xl 33 [.ref 85, w_i l1] I J b (fun v Ic Jc bc => w_T xs xl 136 49 [some (.ref 0), some (w_i l1), some (w_i l2)] [] (w_pv v []) Ic Jc bc Q)) ∧ (I 28 l2 = (-1) → Q (some (w_i (-1))) I J b)))))))) ∧ (s0 = 0 → Q (some (w_i (-1))) I J b)))) : w_T xs xl 136 16 [some (.ref 0), some (w_i l1), some (w_i l2)] [] [w_i s0] I J b Q := by
  obtain ⟨h1, k⟩ := k
  refine w_zne (t := 21) (q := 19) rfl rfl rfl h1 (fun c2 => ?_) (fun c2 => ?_)
  · replace k := k.1 c2
    refine w_iload_n (q := 22) rfl rfl rfl ?_
    refine w_iload_n (q := 23) rfl rfl rfl ?_
    obtain ⟨h3, h4, k⟩ := k
    refine w_ceq (t := 41) (q := 26) rfl rfl rfl h3 h4 (fun c5 => ?_) (fun c5 => ?_)
    · replace k := k.1 c5
      refine w_aload_n (q := 42) rfl rfl rfl ?_
      refine w_gfr (q := 45) rfl rfl rfl rfl (j := 85) rfl ?_
      refine w_iload_n (q := 46) rfl rfl rfl ?_
      refine w_callv (q := 49) rfl rfl rfl rfl rfl rfl ?_
      exact k
    · replace k := k.2 c5
      refine w_aload_n (q := 27) rfl rfl rfl ?_
      refine w_gfr (q := 30) rfl rfl rfl rfl (j := 20) rfl ?_
      refine w_gfr (q := 33) rfl rfl rfl rfl (j := 28) rfl ?_
      refine w_iload_n (q := 34) rfl rfl rfl ?_
      obtain ⟨h6, k⟩ := k
      refine w_iald (q := 35) (n := 30) (v := I 28 l2) rfl rfl rfl rfl rfl rfl h6 ?_
      refine w_iconst (q := 36) rfl rfl ?_
      obtain ⟨h7, k⟩ := k
      refine w_cne (t := 41) (q := 39) rfl rfl rfl h7 (by decide) (fun c8 => ?_) (fun c8 => ?_)
      · replace k := k.1 c8
        refine w_aload_n (q := 42) rfl rfl rfl ?_
        refine w_gfr (q := 45) rfl rfl rfl rfl (j := 85) rfl ?_
        refine w_iload_n (q := 46) rfl rfl rfl ?_
        refine w_callv (q := 49) rfl rfl rfl rfl rfl rfl ?_
        exact k
      · replace k := k.2 c8
        refine w_iconst (q := 40) rfl rfl ?_
        exact w_iret rfl rfl k
  · replace k := k.2 c2
    refine w_iconst (q := 20) rfl rfl ?_
    exact w_iret rfl rfl k
theorem b136_49 {xs : Nat → Int32} {xl : Nat} {I J : w_I} {b : Bool} {Q : Option Value → w_I → w_I → Bool → Prop} {u1 : Option Value} {l2 s0 : Int} (k : ((-2147483648 ≤ s0 ∧ s0 < 2147483648) ∧ ((s0 = 0 → Q (some (w_i (-2))) I J b) ∧ (¬ s0 = 0 → w_C xs xl 35 [.ref 85, w_i l2] I J b (fun v Ic Jc bc => w_T xs xl 136 60 [some (.ref 0), u1, some (w_i l2)] [] (w_pv v []) Ic Jc bc Q))))) : w_T xs xl 136 49 [some (.ref 0), u1, some (w_i l2)] [] [w_i s0] I J b Q := by
  obtain ⟨h1, k⟩ := k
  refine w_zeq (t := 63) (q := 52) rfl rfl rfl h1 (fun c2 => ?_) (fun c2 => ?_)
  · replace k := k.1 c2
    refine w_bipush (q := 65) rfl rfl rfl ?_
    exact w_iret rfl rfl k
  · replace k := k.2 c2
    refine w_aload_n (q := 53) rfl rfl rfl ?_
    refine w_gfr (q := 56) rfl rfl rfl rfl (j := 85) rfl ?_
    refine w_iload_n (q := 57) rfl rfl rfl ?_
    refine w_callv (q := 60) rfl rfl rfl rfl rfl rfl ?_
    exact k
theorem b136_60 {xs : Nat → Int32} {xl : Nat} {I J : w_I} {b : Bool} {Q : Option Value → w_I → w_I → Bool → Prop} {u1 u2 : Option Value} {s0 : Int} (k : Q (some (w_i s0)) I J b) : w_T xs xl 136 60 [some (.ref 0), u1, u2] [] [w_i s0] I J b Q := by
  refine w_goto (t := 65) rfl rfl ?_
  exact w_iret rfl rfl k
theorem e137 {xs : Nat → Int32} {xl : Nat} {I J : w_I} {b : Bool} {Q : Option Value → w_I → w_I → Bool → Prop} {a1 : Int} (t : w_T xs xl 137 0 [some (.ref 0), some (w_i a1)] [] [] I J b Q) : w_C xs xl 137 [.ref 0, w_i a1] I J b Q := w_en rfl t
theorem b137_0 {xs : Nat → Int32} {xl : Nat} {I J : w_I} {b : Bool} {Q : Option Value → w_I → w_I → Bool → Prop} {a1 : Int} (k : w_C xs xl 158 [.ref 0, w_i a1] I J b (fun v Ic Jc bc => w_T xs xl 137 5 [some (.ref 0), some (w_i a1)] [] (w_pv v []) Ic Jc bc Q)) : w_T xs xl 137 0 [some (.ref 0), some (w_i a1)] [] [] I J b Q := by
  refine w_aload_n (q := 1) rfl rfl rfl ?_
  refine w_iload_n (q := 2) rfl rfl rfl ?_
  refine w_callv (q := 5) rfl rfl rfl rfl rfl rfl ?_
  exact k
theorem b137_5 {xs : Nat → Int32} {xl : Nat} {I J : w_I} {b : Bool} {Q : Option Value → w_I → w_I → Bool → Prop} {l1 s0 : Int} (k : ((-2147483648 ≤ s0 ∧ s0 < 2147483648) ∧ ((¬ s0 = 0 → w_C xs xl 33 [.ref 85, w_i l1] I J b (fun v Ic Jc bc => w_T xs xl 137 18 [some (.ref 0), some (w_i l1)] [] (w_pv v []) Ic Jc bc Q)) ∧ (s0 = 0 → Q (some (w_i (-1))) I J b)))) : w_T xs xl 137 5 [some (.ref 0), some (w_i l1)] [] [w_i s0] I J b Q := by
  obtain ⟨h1, k⟩ := k
  refine w_zne (t := 10) (q := 8) rfl rfl rfl h1 (fun c2 => ?_) (fun c2 => ?_)
  · replace k := k.1 c2
    refine w_aload_n (q := 11) rfl rfl rfl ?_
    refine w_gfr (q := 14) rfl rfl rfl rfl (j := 85) rfl ?_
    refine w_iload_n (q := 15) rfl rfl rfl ?_
    refine w_callv (q := 18) rfl rfl rfl rfl rfl rfl ?_
    exact k
  · replace k := k.2 c2
    refine w_iconst (q := 9) rfl rfl ?_
    exact w_iret rfl rfl k
theorem b137_18 {xs : Nat → Int32} {xl : Nat} {I J : w_I} {b : Bool} {Q : Option Value → w_I → w_I → Bool → Prop} {u1 : Option Value} {s0 : Int} (k : ((-2147483648 ≤ s0 ∧ s0 < 2147483648) ∧ ((¬ s0 = 0 → w_C xs xl 36 [.ref 85] I J b (fun v Ic Jc bc => w_T xs xl 137 31 [some (.ref 0), u1] [] (w_pv v []) Ic Jc bc Q)) ∧ (s0 = 0 → Q (some (w_i (-2))) I J b)))) : w_T xs xl 137 18 [some (.ref 0), u1] [] [w_i s0] I J b Q := by
  obtain ⟨h1, k⟩ := k
  refine w_zne (t := 24) (q := 21) rfl rfl rfl h1 (fun c2 => ?_) (fun c2 => ?_)
  · replace k := k.1 c2
    refine w_aload_n (q := 25) rfl rfl rfl ?_
    refine w_gfr (q := 28) rfl rfl rfl rfl (j := 85) rfl ?_
    refine w_callv (q := 31) rfl rfl rfl rfl rfl rfl ?_
    exact k
  · replace k := k.2 c2
    refine w_bipush (q := 23) rfl rfl rfl ?_
    exact w_iret rfl rfl k
theorem b137_31 {xs : Nat → Int32} {xl : Nat} {I J : w_I} {b : Bool} {Q : Option Value → w_I → w_I → Bool → Prop} {u1 : Option Value} (k : Q (some (w_i (I 85 4))) I J b) : w_T xs xl 137 31 [some (.ref 0), u1] [] [] I J b Q := by
  refine w_aload_n (q := 32) rfl rfl rfl ?_
  refine w_gfr (q := 35) rfl rfl rfl rfl (j := 85) rfl ?_
  refine w_gfi (q := 38) (k' := 4) (v := I 85 4) rfl rfl rfl rfl rfl rfl rfl ?_
  exact w_iret rfl rfl k
theorem e138 {xs : Nat → Int32} {xl : Nat} {I J : w_I} {b : Bool} {Q : Option Value → w_I → w_I → Bool → Prop} {a1 : Int} (t : w_T xs xl 138 0 [some (.ref 0), some (w_i a1)] [] [] I J b Q) : w_C xs xl 138 [.ref 0, w_i a1] I J b Q := w_en rfl t
theorem b138_0 {xs : Nat → Int32} {xl : Nat} {I J : w_I} {b : Bool} {Q : Option Value → w_I → w_I → Bool → Prop} {a1 : Int} (k : ((-2147483648 ≤ a1 ∧ a1 < 2147483648) ∧ ((a1 < 1 → Q (some (w_i (-1))) I J b) ∧ (¬ a1 < 1 → ((a1 ≤ 20 → w_C xs xl 104 [.ref 2] I J b (fun v Ic Jc bc => w_T xs xl 138 20 [some (.ref 0), some (w_i a1)] [] (w_pv v []) Ic Jc bc Q)) ∧ (¬ a1 ≤ 20 → Q (some (w_i (-1))) I J b)))))) : w_T xs xl 138 0 [some (.ref 0), some (w_i a1)] [] [] I J b Q := by
  refine w_iload_n (q := 1) rfl rfl rfl ?_
  refine w_iconst (q := 2) rfl rfl ?_
  obtain ⟨h1, k⟩ := k
  refine w_clt (t := 11) (q := 5) rfl rfl rfl h1 (by decide) (fun c2 => ?_) (fun c2 => ?_)
  · replace k := k.1 c2
    refine w_iconst (q := 12) rfl rfl ?_
    exact w_iret rfl rfl k
  · replace k := k.2 c2
    refine w_iload_n (q := 6) rfl rfl rfl ?_
    refine w_bipush (q := 8) rfl rfl rfl ?_
    refine w_cle (t := 13) (q := 11) rfl rfl rfl h1 (by decide) (fun c3 => ?_) (fun c3 => ?_)
    · replace k := k.1 c3
      refine w_aload_n (q := 14) rfl rfl rfl ?_
      refine w_gfr (q := 17) rfl rfl rfl rfl (j := 2) rfl ?_
      refine w_callv (q := 20) rfl rfl rfl rfl rfl rfl ?_
      exact k
    · replace k := k.2 c3
      refine w_iconst (q := 12) rfl rfl ?_
      exact w_iret rfl rfl k
theorem b138_20 {xs : Nat → Int32} {xl : Nat} {I J : w_I} {b : Bool} {Q : Option Value → w_I → w_I → Bool → Prop} {l1 s0 : Int} (k : ((-2147483648 ≤ s0 ∧ s0 < 2147483648) ∧ ((s0 = 0 → w_C xs xl 55 [.ref 89, w_i l1] I J b (fun v Ic Jc bc => w_T xs xl 138 36 [some (.ref 0), some (w_i l1)] [] (w_pv v []) Ic Jc bc Q)) ∧ (¬ s0 = 0 → Q (some (w_i (-2))) I J b)))) : w_T xs xl 138 20 [some (.ref 0), some (w_i l1)] [] [w_i s0] I J b Q := by
  obtain ⟨h1, k⟩ := k
  refine w_zeq (t := 28) (q := 23) rfl rfl rfl h1 (fun c2 => ?_) (fun c2 => ?_)
  · replace k := k.1 c2
    refine w_aload_n (q := 29) rfl rfl rfl ?_
    refine w_gfr (q := 32) rfl rfl rfl rfl (j := 89) rfl ?_
    refine w_iload_n (q := 33) rfl rfl rfl ?_
    refine w_callv (q := 36) rfl rfl rfl rfl rfl rfl ?_
    exact k
  · replace k := k.2 c2
    refine w_bipush (q := 25) rfl rfl rfl ?_
    refine w_goto (t := 36) rfl rfl ?_
    exact w_iret rfl rfl k
theorem b138_36 {xs : Nat → Int32} {xl : Nat} {I J : w_I} {b : Bool} {Q : Option Value → w_I → w_I → Bool → Prop} {u1 : Option Value} {s0 : Int} (k : Q (some (w_i s0)) I J b) : w_T xs xl 138 36 [some (.ref 0), u1] [] [w_i s0] I J b Q := by
  exact w_iret rfl rfl k
theorem e139 {xs : Nat → Int32} {xl : Nat} {I J : w_I} {b : Bool} {Q : Option Value → w_I → w_I → Bool → Prop} (t : w_T xs xl 139 0 [some (.ref 0)] [] [] I J b Q) : w_C xs xl 139 [.ref 0] I J b Q := w_en rfl t
theorem b139_0 {xs : Nat → Int32} {xl : Nat} {I J : w_I} {b : Bool} {Q : Option Value → w_I → w_I → Bool → Prop} (k : w_C xs xl 104 [.ref 2] I J b (fun v Ic Jc bc => w_T xs xl 139 7 [some (.ref 0)] [] (w_pv v []) Ic Jc bc Q)) : w_T xs xl 139 0 [some (.ref 0)] [] [] I J b Q := by
  refine w_aload_n (q := 1) rfl rfl rfl ?_
  refine w_gfr (q := 4) rfl rfl rfl rfl (j := 2) rfl ?_
  refine w_callv (q := 7) rfl rfl rfl rfl rfl rfl ?_
  exact k
theorem b139_7 {xs : Nat → Int32} {xl : Nat} {I J : w_I} {b : Bool} {Q : Option Value → w_I → w_I → Bool → Prop} {s0 : Int} (k : ((-2147483648 ≤ s0 ∧ s0 < 2147483648) ∧ ((s0 = 0 → w_C xs xl 56 [.ref 89] I J b (fun v Ic Jc bc => w_T xs xl 139 20 [some (.ref 0)] [] (w_pv v []) Ic Jc bc Q)) ∧ (¬ s0 = 0 → Q (some (w_i (-2))) I J b)))) : w_T xs xl 139 7 [some (.ref 0)] [] [w_i s0] I J b Q := by
  obtain ⟨h1, k⟩ := k
  refine w_zeq (t := 13) (q := 10) rfl rfl rfl h1 (fun c2 => ?_) (fun c2 => ?_)
  · replace k := k.1 c2
    refine w_aload_n (q := 14) rfl rfl rfl ?_
    refine w_gfr (q := 17) rfl rfl rfl rfl (j := 89) rfl ?_
    refine w_callv (q := 20) rfl rfl rfl rfl rfl rfl ?_
    exact k
  · replace k := k.2 c2
    refine w_bipush (q := 12) rfl rfl rfl ?_
    exact w_iret rfl rfl k
theorem b139_20 {xs : Nat → Int32} {xl : Nat} {I J : w_I} {b : Bool} {Q : Option Value → w_I → w_I → Bool → Prop} (k : w_C xs xl 57 [.ref 89] I J b (fun v Ic Jc bc => w_T xs xl 139 27 [some (.ref 0)] [] (w_pv v []) Ic Jc bc Q)) : w_T xs xl 139 20 [some (.ref 0)] [] [] I J b Q := by
  refine w_aload_n (q := 21) rfl rfl rfl ?_
  refine w_gfr (q := 24) rfl rfl rfl rfl (j := 89) rfl ?_
  refine w_callv (q := 27) rfl rfl rfl rfl rfl rfl ?_
  exact k
theorem b139_27 {xs : Nat → Int32} {xl : Nat} {I J : w_I} {b : Bool} {Q : Option Value → w_I → w_I → Bool → Prop} {s0 : Int} (k : Q (some (w_i s0)) I J b) : w_T xs xl 139 27 [some (.ref 0)] [] [w_i s0] I J b Q := by
  exact w_iret rfl rfl k
theorem e140 {xs : Nat → Int32} {xl : Nat} {I J : w_I} {b : Bool} {Q : Option Value → w_I → w_I → Bool → Prop} {a1 : Int} (t : w_T xs xl 140 0 [some (.ref 0), some (w_i a1)] [] [] I J b Q) : w_C xs xl 140 [.ref 0, w_i a1] I J b Q := w_en rfl t
theorem b140_0 {xs : Nat → Int32} {xl : Nat} {I J : w_I} {b : Bool} {Q : Option Value → w_I → w_I → Bool → Prop} {a1 : Int} (k : w_C xs xl 104 [.ref 2] I J b (fun v Ic Jc bc => w_T xs xl 140 7 [some (.ref 0), some (w_i a1)] [] (w_pv v []) Ic Jc bc Q)) : w_T xs xl 140 0 [some (.ref 0), some (w_i a1)] [] [] I J b Q := by
  refine w_aload_n (q := 1) rfl rfl rfl ?_
  refine w_gfr (q := 4) rfl rfl rfl rfl (j := 2) rfl ?_
  refine w_callv (q := 7) rfl rfl rfl rfl rfl rfl ?_
  exact k
theorem b140_7 {xs : Nat → Int32} {xl : Nat} {I J : w_I} {b : Bool} {Q : Option Value → w_I → w_I → Bool → Prop} {l1 s0 : Int} (k : ((-2147483648 ≤ s0 ∧ s0 < 2147483648) ∧ ((¬ s0 = 0 → Q (some (w_i (-2))) I J b) ∧ (s0 = 0 → ((-2147483648 ≤ I 2 5 ∧ I 2 5 < 2147483648) ∧ ((I 2 5 < 24 → w_C xs xl 56 [.ref 89] I J b (fun v Ic Jc bc => w_T xs xl 140 32 [some (.ref 0), some (w_i l1)] [] (w_pv v []) Ic Jc bc Q)) ∧ (¬ I 2 5 < 24 → Q (some (w_i (-2))) I J b))))))) : w_T xs xl 140 7 [some (.ref 0), some (w_i l1)] [] [w_i s0] I J b Q := by
  obtain ⟨h1, k⟩ := k
  refine w_zne (t := 22) (q := 10) rfl rfl rfl h1 (fun c2 => ?_) (fun c2 => ?_)
  · replace k := k.1 c2
    refine w_bipush (q := 24) rfl rfl rfl ?_
    exact w_iret rfl rfl k
  · replace k := k.2 c2
    refine w_aload_n (q := 11) rfl rfl rfl ?_
    refine w_gfr (q := 14) rfl rfl rfl rfl (j := 2) rfl ?_
    refine w_gfi (q := 17) (k' := 5) (v := I 2 5) rfl rfl rfl rfl rfl rfl rfl ?_
    refine w_bipush (q := 19) rfl rfl rfl ?_
    obtain ⟨h3, k⟩ := k
    refine w_clt (t := 25) (q := 22) rfl rfl rfl h3 (by decide) (fun c4 => ?_) (fun c4 => ?_)
    · replace k := k.1 c4
      refine w_aload_n (q := 26) rfl rfl rfl ?_
      refine w_gfr (q := 29) rfl rfl rfl rfl (j := 89) rfl ?_
      refine w_callv (q := 32) rfl rfl rfl rfl rfl rfl ?_
      exact k
    · replace k := k.2 c4
      refine w_bipush (q := 24) rfl rfl rfl ?_
      exact w_iret rfl rfl k
theorem b140_32 {xs : Nat → Int32} {xl : Nat} {I J : w_I} {b : Bool} {Q : Option Value → w_I → w_I → Bool → Prop} {l1 : Int} (k : w_C xs xl 58 [.ref 89] I J b (fun v Ic Jc bc => w_T xs xl 140 39 [some (.ref 0), some (w_i l1)] [] (w_pv v []) Ic Jc bc Q)) : w_T xs xl 140 32 [some (.ref 0), some (w_i l1)] [] [] I J b Q := by
  refine w_aload_n (q := 33) rfl rfl rfl ?_
  refine w_gfr (q := 36) rfl rfl rfl rfl (j := 89) rfl ?_
  refine w_callv (q := 39) rfl rfl rfl rfl rfl rfl ?_
  exact k
theorem b140_39 {xs : Nat → Int32} {xl : Nat} {I J : w_I} {b : Bool} {Q : Option Value → w_I → w_I → Bool → Prop} {l1 : Int} (k : ((-2147483648 ≤ l1 ∧ l1 < 2147483648) ∧ ((l1 = 0 → Q (some (w_i (I 89 5))) I J b) ∧ (¬ l1 = 0 → Q (some (w_i (I 89 4))) I J b)))) : w_T xs xl 140 39 [some (.ref 0), some (w_i l1)] [] [] I J b Q := by
  refine w_iload_n (q := 40) rfl rfl rfl ?_
  obtain ⟨h1, k⟩ := k
  refine w_zeq (t := 53) (q := 43) rfl rfl rfl h1 (fun c2 => ?_) (fun c2 => ?_)
  · replace k := k.1 c2
    refine w_aload_n (q := 54) rfl rfl rfl ?_
    refine w_gfr (q := 57) rfl rfl rfl rfl (j := 89) rfl ?_
    refine w_gfi (q := 60) (k' := 5) (v := I 89 5) rfl rfl rfl rfl rfl rfl rfl ?_
    exact w_iret rfl rfl k
  · replace k := k.2 c2
    refine w_aload_n (q := 44) rfl rfl rfl ?_
    refine w_gfr (q := 47) rfl rfl rfl rfl (j := 89) rfl ?_
    refine w_gfi (q := 50) (k' := 4) (v := I 89 4) rfl rfl rfl rfl rfl rfl rfl ?_
    refine w_goto (t := 60) rfl rfl ?_
    exact w_iret rfl rfl k
theorem e141 {xs : Nat → Int32} {xl : Nat} {I J : w_I} {b : Bool} {Q : Option Value → w_I → w_I → Bool → Prop} (t : w_T xs xl 141 0 [some (.ref 0)] [] [] I J b Q) : w_C xs xl 141 [.ref 0] I J b Q := w_en rfl t
theorem b141_0 {xs : Nat → Int32} {xl : Nat} {I J : w_I} {b : Bool} {Q : Option Value → w_I → w_I → Bool → Prop} (k : w_C xs xl 104 [.ref 2] I J b (fun v Ic Jc bc => w_T xs xl 141 7 [some (.ref 0)] [] (w_pv v []) Ic Jc bc Q)) : w_T xs xl 141 0 [some (.ref 0)] [] [] I J b Q := by
  refine w_aload_n (q := 1) rfl rfl rfl ?_
  refine w_gfr (q := 4) rfl rfl rfl rfl (j := 2) rfl ?_
  refine w_callv (q := 7) rfl rfl rfl rfl rfl rfl ?_
  exact k
theorem b141_7 {xs : Nat → Int32} {xl : Nat} {I J : w_I} {b : Bool} {Q : Option Value → w_I → w_I → Bool → Prop} {s0 : Int} (k : ((-2147483648 ≤ s0 ∧ s0 < 2147483648) ∧ ((s0 = 0 → w_C xs xl 56 [.ref 89] I J b (fun v Ic Jc bc => w_T xs xl 141 20 [some (.ref 0)] [] (w_pv v []) Ic Jc bc Q)) ∧ (¬ s0 = 0 → Q (some (w_i (-2))) I J b)))) : w_T xs xl 141 7 [some (.ref 0)] [] [w_i s0] I J b Q := by
  obtain ⟨h1, k⟩ := k
  refine w_zeq (t := 13) (q := 10) rfl rfl rfl h1 (fun c2 => ?_) (fun c2 => ?_)
  · replace k := k.1 c2
    refine w_aload_n (q := 14) rfl rfl rfl ?_
    refine w_gfr (q := 17) rfl rfl rfl rfl (j := 89) rfl ?_
    refine w_callv (q := 20) rfl rfl rfl rfl rfl rfl ?_
    exact k
  · replace k := k.2 c2
    refine w_bipush (q := 12) rfl rfl rfl ?_
    exact w_iret rfl rfl k
theorem b141_20 {xs : Nat → Int32} {xl : Nat} {I J : w_I} {b : Bool} {Q : Option Value → w_I → w_I → Bool → Prop} (k : w_C xs xl 59 [.ref 89] I J b (fun v Ic Jc bc => w_T xs xl 141 27 [some (.ref 0)] [] (w_pv v []) Ic Jc bc Q)) : w_T xs xl 141 20 [some (.ref 0)] [] [] I J b Q := by
  refine w_aload_n (q := 21) rfl rfl rfl ?_
  refine w_gfr (q := 24) rfl rfl rfl rfl (j := 89) rfl ?_
  refine w_callv (q := 27) rfl rfl rfl rfl rfl rfl ?_
  exact k
theorem b141_27 {xs : Nat → Int32} {xl : Nat} {I J : w_I} {b : Bool} {Q : Option Value → w_I → w_I → Bool → Prop} (k : w_C xs xl 162 [w_i (I 89 4)] I J b (fun v Ic Jc bc => w_T xs xl 141 37 [some (.ref 0)] [] (w_pv v []) Ic Jc bc Q)) : w_T xs xl 141 27 [some (.ref 0)] [] [] I J b Q := by
  refine w_aload_n (q := 28) rfl rfl rfl ?_
  refine w_gfr (q := 31) rfl rfl rfl rfl (j := 89) rfl ?_
  refine w_gfi (q := 34) (k' := 4) (v := I 89 4) rfl rfl rfl rfl rfl rfl rfl ?_
  refine w_call (q := 37) rfl rfl rfl rfl rfl ?_
  exact k
theorem b141_37 {xs : Nat → Int32} {xl : Nat} {I J : w_I} {b : Bool} {Q : Option Value → w_I → w_I → Bool → Prop} {s0 : Int} (k : Q (some (w_i s0)) I J b) : w_T xs xl 141 37 [some (.ref 0)] [] [w_i s0] I J b Q := by
  exact w_iret rfl rfl k
theorem e142 {xs : Nat → Int32} {xl : Nat} {I J : w_I} {b : Bool} {Q : Option Value → w_I → w_I → Bool → Prop} {a1 : Int} (t : w_T xs xl 142 0 [some (.ref 0), some (w_i a1)] [] [] I J b Q) : w_C xs xl 142 [.ref 0, w_i a1] I J b Q := w_en rfl t
theorem b142_0 {xs : Nat → Int32} {xl : Nat} {I J : w_I} {b : Bool} {Q : Option Value → w_I → w_I → Bool → Prop} {a1 : Int} (k : ((-2147483648 ≤ a1 ∧ a1 < 2147483648) ∧ ((a1 < 0 → Q (some (w_i (-1))) I J b) ∧ (¬ a1 < 0 → ((a1 ≤ 1 → w_C xs xl 107 [.ref 93] I J b (fun v Ic Jc bc => w_T xs xl 142 18 [some (.ref 0), some (w_i a1)] [] (w_pv v []) Ic Jc bc Q)) ∧ (¬ a1 ≤ 1 → Q (some (w_i (-1))) I J b)))))) : w_T xs xl 142 0 [some (.ref 0), some (w_i a1)] [] [] I J b Q := by
  refine w_iload_n (q := 1) rfl rfl rfl ?_
  obtain ⟨h1, k⟩ := k
  refine w_zlt (t := 9) (q := 4) rfl rfl rfl h1 (fun c2 => ?_) (fun c2 => ?_)
  · replace k := k.1 c2
    refine w_iconst (q := 10) rfl rfl ?_
    exact w_iret rfl rfl k
  · replace k := k.2 c2
    refine w_iload_n (q := 5) rfl rfl rfl ?_
    refine w_iconst (q := 6) rfl rfl ?_
    refine w_cle (t := 11) (q := 9) rfl rfl rfl h1 (by decide) (fun c3 => ?_) (fun c3 => ?_)
    · replace k := k.1 c3
      refine w_aload_n (q := 12) rfl rfl rfl ?_
      refine w_gfr (q := 15) rfl rfl rfl rfl (j := 93) rfl ?_
      refine w_callv (q := 18) rfl rfl rfl rfl rfl rfl ?_
      exact k
    · replace k := k.2 c3
      refine w_iconst (q := 10) rfl rfl ?_
      exact w_iret rfl rfl k
theorem b142_18 {xs : Nat → Int32} {xl : Nat} {I J : w_I} {b : Bool} {Q : Option Value → w_I → w_I → Bool → Prop} {l1 s0 : Int} (k : ((-2147483648 ≤ s0 ∧ s0 < 2147483648) ∧ ((¬ s0 = 0 → ((-2147483648 ≤ l1 ∧ l1 < 2147483648) ∧ ((¬ l1 = 0 → Q (some (w_i (I 93 9))) I J b) ∧ (l1 = 0 → Q (some (w_i (I 93 8))) I J b)))) ∧ (s0 = 0 → Q (some (w_i (-2))) I J b)))) : w_T xs xl 142 18 [some (.ref 0), some (w_i l1)] [] [w_i s0] I J b Q := by
  obtain ⟨h1, k⟩ := k
  refine w_zne (t := 24) (q := 21) rfl rfl rfl h1 (fun c2 => ?_) (fun c2 => ?_)
  · replace k := k.1 c2
    refine w_iload_n (q := 25) rfl rfl rfl ?_
    obtain ⟨h3, k⟩ := k
    refine w_zne (t := 38) (q := 28) rfl rfl rfl h3 (fun c4 => ?_) (fun c4 => ?_)
    · replace k := k.1 c4
      refine w_aload_n (q := 39) rfl rfl rfl ?_
      refine w_gfr (q := 42) rfl rfl rfl rfl (j := 93) rfl ?_
      refine w_gfi (q := 45) (k' := 9) (v := I 93 9) rfl rfl rfl rfl rfl rfl rfl ?_
      exact w_iret rfl rfl k
    · replace k := k.2 c4
      refine w_aload_n (q := 29) rfl rfl rfl ?_
      refine w_gfr (q := 32) rfl rfl rfl rfl (j := 93) rfl ?_
      refine w_gfi (q := 35) (k' := 8) (v := I 93 8) rfl rfl rfl rfl rfl rfl rfl ?_
      refine w_goto (t := 45) rfl rfl ?_
      exact w_iret rfl rfl k
  · replace k := k.2 c2
    refine w_bipush (q := 23) rfl rfl rfl ?_
    exact w_iret rfl rfl k
theorem e143 {xs : Nat → Int32} {xl : Nat} {I J : w_I} {b : Bool} {Q : Option Value → w_I → w_I → Bool → Prop} {a1 a2 a3 : Int} (t : w_T xs xl 143 0 [some (.ref 0), some (w_i a1), some (w_i a2), some (w_i a3)] [] [] I J b Q) : w_C xs xl 143 [.ref 0, w_i a1, w_i a2, w_i a3] I J b Q := w_en rfl t
theorem b143_0 {xs : Nat → Int32} {xl : Nat} {I J : w_I} {b : Bool} {Q : Option Value → w_I → w_I → Bool → Prop} {a1 a2 a3 : Int} (k : ((-2147483648 ≤ I 20 16 ∧ I 20 16 < 2147483648) ∧ ((40 ≤ I 20 16 → Q (some (w_i (-1))) I J b) ∧ (¬ 40 ≤ I 20 16 → ((-2147483648 ≤ a1 ∧ a1 < 2147483648) ∧ ((a1 < 0 → Q (some (w_i (-1))) I J b) ∧ (¬ a1 < 0 → ((a1 ≤ 99 → ((-2147483648 ≤ a2 ∧ a2 < 2147483648) ∧ ((a2 < 0 → Q (some (w_i (-1))) I J b) ∧ (¬ a2 < 0 → ((-2147483648 ≤ I 20 14 ∧ I 20 14 < 2147483648) ∧ ((I 20 14 ≤ a2 → Q (some (w_i (-1))) I J b) ∧ (¬ I 20 14 ≤ a2 → w_C xs xl 156 [.ref 0, w_i a3] I J b (fun v Ic Jc bc => w_T xs xl 143 44 [some (.ref 0), some (w_i a1), some (w_i a2), some (w_i a3)] [] (w_pv v []) Ic Jc bc Q)))))))) ∧ (¬ a1 ≤ 99 → Q (some (w_i (-1))) I J b))))))))) : w_T xs xl 143 0 [some (.ref 0), some (w_i a1), some (w_i a2), some (w_i a3)] [] [] I J b Q := by
  refine w_aload_n (q := 1) rfl rfl rfl ?_
  refine w_gfr (q := 4) rfl rfl rfl rfl (j := 20) rfl ?_
  refine w_gfi (q := 7) (k' := 16) (v := I 20 16) rfl rfl rfl rfl rfl rfl rfl ?_
  refine w_bipush (q := 9) rfl rfl rfl ?_
  obtain ⟨h1, k⟩ := k
  refine w_cge (t := 22) (q := 12) rfl rfl rfl h1 (by decide) (fun c2 => ?_) (fun c2 => ?_)
  · replace k := k.1 c2
    refine w_iconst (q := 23) rfl rfl ?_
    exact w_iret rfl rfl k
  · replace k := k.2 c2
    refine w_iload_n (q := 13) rfl rfl rfl ?_
    obtain ⟨h3, k⟩ := k
    refine w_zlt (t := 22) (q := 16) rfl rfl rfl h3 (fun c4 => ?_) (fun c4 => ?_)
    · replace k := k.1 c4
      refine w_iconst (q := 23) rfl rfl ?_
      exact w_iret rfl rfl k
    · replace k := k.2 c4
      refine w_iload_n (q := 17) rfl rfl rfl ?_
      refine w_bipush (q := 19) rfl rfl rfl ?_
      refine w_cle (t := 24) (q := 22) rfl rfl rfl h3 (by decide) (fun c5 => ?_) (fun c5 => ?_)
      · replace k := k.1 c5
        refine w_iload_n (q := 25) rfl rfl rfl ?_
        obtain ⟨h6, k⟩ := k
        refine w_zlt (t := 47) (q := 28) rfl rfl rfl h6 (fun c7 => ?_) (fun c7 => ?_)
        · replace k := k.1 c7
          refine w_iconst (q := 48) rfl rfl ?_
          exact w_iret rfl rfl k
        · replace k := k.2 c7
          refine w_iload_n (q := 29) rfl rfl rfl ?_
          refine w_aload_n (q := 30) rfl rfl rfl ?_
          refine w_gfr (q := 33) rfl rfl rfl rfl (j := 20) rfl ?_
          refine w_gfi (q := 36) (k' := 14) (v := I 20 14) rfl rfl rfl rfl rfl rfl rfl ?_
          obtain ⟨h8, k⟩ := k
          refine w_cge (t := 47) (q := 39) rfl rfl rfl h6 h8 (fun c9 => ?_) (fun c9 => ?_)
          · replace k := k.1 c9
            refine w_iconst (q := 48) rfl rfl ?_
            exact w_iret rfl rfl k
          · replace k := k.2 c9
            refine w_aload_n (q := 40) rfl rfl rfl ?_
            refine w_iload_n (q := 41) rfl rfl rfl ?_
            refine w_callv (q := 44) rfl rfl rfl rfl rfl rfl ?_
            exact k
      · replace k := k.2 c5
        refine w_iconst (q := 23) rfl rfl ?_
        exact w_iret rfl rfl k
theorem b143_44 {xs : Nat → Int32} {xl : Nat} {I J : w_I} {b : Bool} {Q : Option Value → w_I → w_I → Bool → Prop} {l1 l2 l3 s0 : Int} (k : ((-2147483648 ≤ s0 ∧ s0 < 2147483648) ∧ ((¬ s0 = 0 → w_C xs xl 19 [.ref 20, w_i l1, w_i l2, w_i l3] I J b (fun v Ic Jc bc => w_T xs xl 143 59 [some (.ref 0), some (w_i l1), some (w_i l2), some (w_i l3)] [] (w_pv v []) Ic Jc bc Q)) ∧ (s0 = 0 → Q (some (w_i (-1))) I J b)))) : w_T xs xl 143 44 [some (.ref 0), some (w_i l1), some (w_i l2), some (w_i l3)] [] [w_i s0] I J b Q := by
  obtain ⟨h1, k⟩ := k
  refine w_zne (t := 49) (q := 47) rfl rfl rfl h1 (fun c2 => ?_) (fun c2 => ?_)
  · replace k := k.1 c2
    refine w_aload_n (q := 50) rfl rfl rfl ?_
    refine w_gfr (q := 53) rfl rfl rfl rfl (j := 20) rfl ?_
    refine w_iload_n (q := 54) rfl rfl rfl ?_
    refine w_iload_n (q := 55) rfl rfl rfl ?_
    refine w_iload_n (q := 56) rfl rfl rfl ?_
    refine w_callv (q := 59) rfl rfl rfl rfl rfl rfl ?_
    exact k
  · replace k := k.2 c2
    refine w_iconst (q := 48) rfl rfl ?_
    exact w_iret rfl rfl k
theorem b143_59 {xs : Nat → Int32} {xl : Nat} {I J : w_I} {b : Bool} {Q : Option Value → w_I → w_I → Bool → Prop} {u1 u2 u3 : Option Value} {s0 : Int} (k : Q (some (w_i s0)) I J b) : w_T xs xl 143 59 [some (.ref 0), u1, u2, u3] [] [w_i s0] I J b Q := by
  exact w_iret rfl rfl k
theorem e144 {xs : Nat → Int32} {xl : Nat} {I J : w_I} {b : Bool} {Q : Option Value → w_I → w_I → Bool → Prop} (t : w_T xs xl 144 0 [some (.ref 0), none] [] [] I J b Q) : w_C xs xl 144 [.ref 0] I J b Q := w_en rfl t
theorem b144_0 {xs : Nat → Int32} {xl : Nat} {I J : w_I} {b : Bool} {Q : Option Value → w_I → w_I → Bool → Prop} (k : Q (some (w_i (I 20 16))) (w_U I 20 16 0) J b) : w_T xs xl 144 0 [some (.ref 0), none] [] [] I J b Q := by
  refine w_aload_n (q := 1) rfl rfl rfl ?_
  refine w_gfr (q := 4) rfl rfl rfl rfl (j := 20) rfl ?_
  refine w_gfi (q := 7) (k' := 16) (v := I 20 16) rfl rfl rfl rfl rfl rfl rfl ?_
  refine w_istore_n (q := 8) (L' := [some (.ref 0), some (w_i (I 20 16))]) (M' := []) rfl rfl rfl rfl rfl ?_
  refine w_aload_n (q := 9) rfl rfl rfl ?_
  refine w_gfr (q := 12) rfl rfl rfl rfl (j := 20) rfl ?_
  refine w_iconst (q := 13) rfl rfl ?_
  refine w_pfi (q := 16) (k' := 16) rfl rfl rfl rfl ?_
  refine w_iload_n (q := 17) rfl rfl rfl ?_
  exact w_iret rfl rfl k
theorem e145 {xs : Nat → Int32} {xl : Nat} {I J : w_I} {b : Bool} {Q : Option Value → w_I → w_I → Bool → Prop} (t : w_T xs xl 145 0 [some (.ref 0), none] [] [] I J b Q) : w_C xs xl 145 [.ref 0] I J b Q := w_en rfl t
theorem b145_0 {xs : Nat → Int32} {xl : Nat} {I J : w_I} {b : Bool} {Q : Option Value → w_I → w_I → Bool → Prop} (k : w_C xs xl 51 [.ref 100] I J b (fun v Ic Jc bc => w_T xs xl 145 7 [some (.ref 0), none] [] (w_pv v []) Ic Jc bc Q)) : w_T xs xl 145 0 [some (.ref 0), none] [] [] I J b Q := by
  refine w_aload_n (q := 1) rfl rfl rfl ?_
  refine w_gfr (q := 4) rfl rfl rfl rfl (j := 100) rfl ?_
  refine w_callv (q := 7) rfl rfl rfl rfl rfl rfl ?_
  exact k
theorem b145_7 {xs : Nat → Int32} {xl : Nat} {I J : w_I} {b : Bool} {Q : Option Value → w_I → w_I → Bool → Prop} {u1 : Option Value} {s0 : Int} (k : w_C xs xl 50 [.ref 100] I J b (fun v Ic Jc bc => w_T xs xl 145 15 [some (.ref 0), some (w_i s0)] [] (w_pv v []) Ic Jc bc Q)) : w_T xs xl 145 7 [some (.ref 0), u1] [] [w_i s0] I J b Q := by
  refine w_istore_n (q := 8) (L' := [some (.ref 0), some (w_i s0)]) (M' := []) rfl rfl rfl rfl rfl ?_
  refine w_aload_n (q := 9) rfl rfl rfl ?_
  refine w_gfr (q := 12) rfl rfl rfl rfl (j := 100) rfl ?_
  refine w_callv (q := 15) rfl rfl rfl rfl rfl rfl ?_
  exact k
theorem b145_15 {xs : Nat → Int32} {xl : Nat} {I J : w_I} {b : Bool} {Q : Option Value → w_I → w_I → Bool → Prop} {l1 : Int} (k : Q (some (w_i l1)) I J b) : w_T xs xl 145 15 [some (.ref 0), some (w_i l1)] [] [] I J b Q := by
  refine w_iload_n (q := 16) rfl rfl rfl ?_
  exact w_iret rfl rfl k
theorem e146 {xs : Nat → Int32} {xl : Nat} {I J : w_I} {b : Bool} {Q : Option Value → w_I → w_I → Bool → Prop} (t : w_T xs xl 146 0 [some (.ref 0)] [] [] I J b Q) : w_C xs xl 146 [.ref 0] I J b Q := w_en rfl t
theorem b146_0 {xs : Nat → Int32} {xl : Nat} {I J : w_I} {b : Bool} {Q : Option Value → w_I → w_I → Bool → Prop} (k : w_C xs xl 51 [.ref 100] I J b (fun v Ic Jc bc => w_T xs xl 146 7 [some (.ref 0)] [] (w_pv v []) Ic Jc bc Q)) : w_T xs xl 146 0 [some (.ref 0)] [] [] I J b Q := by
  refine w_aload_n (q := 1) rfl rfl rfl ?_
  refine w_gfr (q := 4) rfl rfl rfl rfl (j := 100) rfl ?_
  refine w_callv (q := 7) rfl rfl rfl rfl rfl rfl ?_
  exact k
theorem b146_7 {xs : Nat → Int32} {xl : Nat} {I J : w_I} {b : Bool} {Q : Option Value → w_I → w_I → Bool → Prop} {s0 : Int} (k : ((-2147483648 ≤ s0 ∧ s0 < 2147483648) ∧ ((s0 = 0 → Q (some (w_i (I 100 3))) (w_U I 20 16 0) J b) ∧ (¬ s0 = 0 → w_C xs xl 50 [.ref 100] I J b (fun v Ic Jc bc => w_T xs xl 146 17 [some (.ref 0)] [] (w_pv v []) Ic Jc bc Q))))) : w_T xs xl 146 7 [some (.ref 0)] [] [w_i s0] I J b Q := by
  obtain ⟨h1, k⟩ := k
  refine w_zeq (t := 20) (q := 10) rfl rfl rfl h1 (fun c2 => ?_) (fun c2 => ?_)
  · replace k := k.1 c2
    refine w_aload_n (q := 21) rfl rfl rfl ?_
    refine w_gfr (q := 24) rfl rfl rfl rfl (j := 20) rfl ?_
    refine w_iconst (q := 25) rfl rfl ?_
    refine w_pfi (q := 28) (k' := 16) rfl rfl rfl rfl ?_
    refine w_aload_n (q := 29) rfl rfl rfl ?_
    refine w_gfr (q := 32) rfl rfl rfl rfl (j := 100) rfl ?_
    refine w_gfi (q := 35) (k' := 3) (v := I 100 3) rfl rfl rfl rfl rfl rfl rfl ?_
    exact w_iret rfl rfl k
  · replace k := k.2 c2
    refine w_aload_n (q := 11) rfl rfl rfl ?_
    refine w_gfr (q := 14) rfl rfl rfl rfl (j := 100) rfl ?_
    refine w_callv (q := 17) rfl rfl rfl rfl rfl rfl ?_
    exact k
theorem b146_17 {xs : Nat → Int32} {xl : Nat} {I J : w_I} {b : Bool} {Q : Option Value → w_I → w_I → Bool → Prop} (k : Q (some (w_i (-2))) I J b) : w_T xs xl 146 17 [some (.ref 0)] [] [] I J b Q := by
  refine w_bipush (q := 19) rfl rfl rfl ?_
  exact w_iret rfl rfl k
theorem e147 {xs : Nat → Int32} {xl : Nat} {I J : w_I} {b : Bool} {Q : Option Value → w_I → w_I → Bool → Prop} {a1 a2 : Int} (t : w_T xs xl 147 0 [some (.ref 0), some (w_i a1), some (w_i a2)] [] [] I J b Q) : w_C xs xl 147 [.ref 0, w_i a1, w_i a2] I J b Q := w_en rfl t
theorem b147_0 {xs : Nat → Int32} {xl : Nat} {I J : w_I} {b : Bool} {Q : Option Value → w_I → w_I → Bool → Prop} {a1 a2 : Int} (k : w_C xs xl 6 [.ref 20, w_i a1] I J b (fun v Ic Jc bc => w_T xs xl 147 8 [some (.ref 0), some (w_i a1), some (w_i a2)] [] (w_pv v []) Ic Jc bc Q)) : w_T xs xl 147 0 [some (.ref 0), some (w_i a1), some (w_i a2)] [] [] I J b Q := by
  refine w_aload_n (q := 1) rfl rfl rfl ?_
  refine w_gfr (q := 4) rfl rfl rfl rfl (j := 20) rfl ?_
  refine w_iload_n (q := 5) rfl rfl rfl ?_
  refine w_callv (q := 8) rfl rfl rfl rfl rfl rfl ?_
  exact k
theorem b147_8 {xs : Nat → Int32} {xl : Nat} {I J : w_I} {b : Bool} {Q : Option Value → w_I → w_I → Bool → Prop} {l1 l2 s0 : Int} (k : ((-2147483648 ≤ s0 ∧ s0 < 2147483648) ∧ ((s0 = 0 → Q (some (w_i (-1))) I J b) ∧ (¬ s0 = 0 → w_C xs xl 156 [.ref 0, w_i l2] I J b (fun v Ic Jc bc => w_T xs xl 147 16 [some (.ref 0), some (w_i l1), some (w_i l2)] [] (w_pv v []) Ic Jc bc Q))))) : w_T xs xl 147 8 [some (.ref 0), some (w_i l1), some (w_i l2)] [] [w_i s0] I J b Q := by
  obtain ⟨h1, k⟩ := k
  refine w_zeq (t := 19) (q := 11) rfl rfl rfl h1 (fun c2 => ?_) (fun c2 => ?_)
  · replace k := k.1 c2
    refine w_iconst (q := 20) rfl rfl ?_
    exact w_iret rfl rfl k
  · replace k := k.2 c2
    refine w_aload_n (q := 12) rfl rfl rfl ?_
    refine w_iload_n (q := 13) rfl rfl rfl ?_
    refine w_callv (q := 16) rfl rfl rfl rfl rfl rfl ?_
    exact k
theorem b147_16 {xs : Nat → Int32} {xl : Nat} {I J : w_I} {b : Bool} {Q : Option Value → w_I → w_I → Bool → Prop} {l1 l2 s0 : Int} (k : ((-2147483648 ≤ s0 ∧ s0 < 2147483648) ∧ ((¬ s0 = 0 → w_C xs xl 21 [.ref 78] I J b (fun v Ic Jc bc => w_T xs xl 147 28 [some (.ref 0), some (w_i l1), some (w_i l2)] [] (w_pv v []) Ic Jc bc Q)) ∧ (s0 = 0 → Q (some (w_i (-1))) I J b)))) : w_T xs xl 147 16 [some (.ref 0), some (w_i l1), some (w_i l2)] [] [w_i s0] I J b Q := by
  obtain ⟨h1, k⟩ := k
  refine w_zne (t := 21) (q := 19) rfl rfl rfl h1 (fun c2 => ?_) (fun c2 => ?_)
  · replace k := k.1 c2
    refine w_aload_n (q := 22) rfl rfl rfl ?_
    refine w_gfr (q := 25) rfl rfl rfl rfl (j := 78) rfl ?_
    refine w_callv (q := 28) rfl rfl rfl rfl rfl rfl ?_
    exact k
  · replace k := k.2 c2
    refine w_iconst (q := 20) rfl rfl ?_
    exact w_iret rfl rfl k
theorem b147_28 {xs : Nat → Int32} {xl : Nat} {I J : w_I} {b : Bool} {Q : Option Value → w_I → w_I → Bool → Prop} {l1 l2 : Int} (k : w_C xs xl 113 [.ref 102, w_i l1, w_i l2] I J b (fun v Ic Jc bc => w_T xs xl 147 37 [some (.ref 0), some (w_i l1), some (w_i l2)] [] (w_pv v []) Ic Jc bc Q)) : w_T xs xl 147 28 [some (.ref 0), some (w_i l1), some (w_i l2)] [] [] I J b Q := by
  refine w_aload_n (q := 29) rfl rfl rfl ?_
  refine w_gfr (q := 32) rfl rfl rfl rfl (j := 102) rfl ?_
  refine w_iload_n (q := 33) rfl rfl rfl ?_
  refine w_iload_n (q := 34) rfl rfl rfl ?_
  refine w_callv (q := 37) rfl rfl rfl rfl rfl rfl ?_
  exact k
theorem b147_37 {xs : Nat → Int32} {xl : Nat} {I J : w_I} {b : Bool} {Q : Option Value → w_I → w_I → Bool → Prop} {u1 u2 : Option Value} {s0 : Int} (k : Q (some (w_i s0)) I J b) : w_T xs xl 147 37 [some (.ref 0), u1, u2] [] [w_i s0] I J b Q := by
  exact w_iret rfl rfl k
theorem e148 {xs : Nat → Int32} {xl : Nat} {I J : w_I} {b : Bool} {Q : Option Value → w_I → w_I → Bool → Prop} {a1 : Int} (t : w_T xs xl 148 0 [some (.ref 0), some (w_i a1)] [] [] I J b Q) : w_C xs xl 148 [.ref 0, w_i a1] I J b Q := w_en rfl t
theorem b148_0 {xs : Nat → Int32} {xl : Nat} {I J : w_I} {b : Bool} {Q : Option Value → w_I → w_I → Bool → Prop} {a1 : Int} (k : ((-2147483648 ≤ a1 ∧ a1 < 2147483648) ∧ ((a1 < 0 → Q (some (w_i (-1))) I J b) ∧ (¬ a1 < 0 → ((a1 ≤ 1 → w_C xs xl 21 [.ref 78] I J b (fun v Ic Jc bc => w_T xs xl 148 18 [some (.ref 0), some (w_i a1)] [] (w_pv v []) Ic Jc bc Q)) ∧ (¬ a1 ≤ 1 → Q (some (w_i (-1))) I J b)))))) : w_T xs xl 148 0 [some (.ref 0), some (w_i a1)] [] [] I J b Q := by
  refine w_iload_n (q := 1) rfl rfl rfl ?_
  obtain ⟨h1, k⟩ := k
  refine w_zlt (t := 9) (q := 4) rfl rfl rfl h1 (fun c2 => ?_) (fun c2 => ?_)
  · replace k := k.1 c2
    refine w_iconst (q := 10) rfl rfl ?_
    exact w_iret rfl rfl k
  · replace k := k.2 c2
    refine w_iload_n (q := 5) rfl rfl rfl ?_
    refine w_iconst (q := 6) rfl rfl ?_
    refine w_cle (t := 11) (q := 9) rfl rfl rfl h1 (by decide) (fun c3 => ?_) (fun c3 => ?_)
    · replace k := k.1 c3
      refine w_aload_n (q := 12) rfl rfl rfl ?_
      refine w_gfr (q := 15) rfl rfl rfl rfl (j := 78) rfl ?_
      refine w_callv (q := 18) rfl rfl rfl rfl rfl rfl ?_
      exact k
    · replace k := k.2 c3
      refine w_iconst (q := 10) rfl rfl ?_
      exact w_iret rfl rfl k
theorem b148_18 {xs : Nat → Int32} {xl : Nat} {I J : w_I} {b : Bool} {Q : Option Value → w_I → w_I → Bool → Prop} {l1 : Int} (k : w_C xs xl 114 [.ref 102] I J b (fun v Ic Jc bc => w_T xs xl 148 25 [some (.ref 0), some (w_i l1)] [] (w_pv v []) Ic Jc bc Q)) : w_T xs xl 148 18 [some (.ref 0), some (w_i l1)] [] [] I J b Q := by
  refine w_aload_n (q := 19) rfl rfl rfl ?_
  refine w_gfr (q := 22) rfl rfl rfl rfl (j := 102) rfl ?_
  refine w_callv (q := 25) rfl rfl rfl rfl rfl rfl ?_
  exact k
theorem b148_25 {xs : Nat → Int32} {xl : Nat} {I J : w_I} {b : Bool} {Q : Option Value → w_I → w_I → Bool → Prop} {l1 s0 : Int} (k : ((-2147483648 ≤ s0 ∧ s0 < 2147483648) ∧ ((¬ s0 = 0 → ((-2147483648 ≤ l1 ∧ l1 < 2147483648) ∧ ((¬ l1 = 0 → Q (some (w_i (100 * I 102 2 + I 102 3))) I J b) ∧ (l1 = 0 → Q (some (w_i (I 102 1))) I J b)))) ∧ (s0 = 0 → Q (some (w_i (-2))) I J b)))) : w_T xs xl 148 25 [some (.ref 0), some (w_i l1)] [] [w_i s0] I J b Q := by
  obtain ⟨h1, k⟩ := k
  refine w_zne (t := 31) (q := 28) rfl rfl rfl h1 (fun c2 => ?_) (fun c2 => ?_)
  · replace k := k.1 c2
    refine w_iload_n (q := 32) rfl rfl rfl ?_
    obtain ⟨h3, k⟩ := k
    refine w_zne (t := 45) (q := 35) rfl rfl rfl h3 (fun c4 => ?_) (fun c4 => ?_)
    · replace k := k.1 c4
      refine w_bipush (q := 47) rfl rfl rfl ?_
      refine w_aload_n (q := 48) rfl rfl rfl ?_
      refine w_gfr (q := 51) rfl rfl rfl rfl (j := 102) rfl ?_
      refine w_gfi (q := 54) (k' := 2) (v := I 102 2) rfl rfl rfl rfl rfl rfl rfl ?_
      refine w_imul (q := 55) rfl rfl ?_
      refine w_aload_n (q := 56) rfl rfl rfl ?_
      refine w_gfr (q := 59) rfl rfl rfl rfl (j := 102) rfl ?_
      refine w_gfi (q := 62) (k' := 3) (v := I 102 3) rfl rfl rfl rfl rfl rfl rfl ?_
      refine w_iadd (q := 63) rfl rfl ?_
      exact w_iret rfl rfl k
    · replace k := k.2 c4
      refine w_aload_n (q := 36) rfl rfl rfl ?_
      refine w_gfr (q := 39) rfl rfl rfl rfl (j := 102) rfl ?_
      refine w_gfi (q := 42) (k' := 1) (v := I 102 1) rfl rfl rfl rfl rfl rfl rfl ?_
      refine w_goto (t := 63) rfl rfl ?_
      exact w_iret rfl rfl k
  · replace k := k.2 c2
    refine w_bipush (q := 30) rfl rfl rfl ?_
    exact w_iret rfl rfl k
theorem e149 {xs : Nat → Int32} {xl : Nat} {I J : w_I} {b : Bool} {Q : Option Value → w_I → w_I → Bool → Prop} {a1 a2 : Int} (t : w_T xs xl 149 0 [some (.ref 0), some (w_i a1), some (w_i a2)] [] [] I J b Q) : w_C xs xl 149 [.ref 0, w_i a1, w_i a2] I J b Q := w_en rfl t
theorem b149_0 {xs : Nat → Int32} {xl : Nat} {I J : w_I} {b : Bool} {Q : Option Value → w_I → w_I → Bool → Prop} {a1 a2 : Int} (k : w_C xs xl 6 [.ref 20, w_i a1] I J b (fun v Ic Jc bc => w_T xs xl 149 8 [some (.ref 0), some (w_i a1), some (w_i a2)] [] (w_pv v []) Ic Jc bc Q)) : w_T xs xl 149 0 [some (.ref 0), some (w_i a1), some (w_i a2)] [] [] I J b Q := by
  refine w_aload_n (q := 1) rfl rfl rfl ?_
  refine w_gfr (q := 4) rfl rfl rfl rfl (j := 20) rfl ?_
  refine w_iload_n (q := 5) rfl rfl rfl ?_
  refine w_callv (q := 8) rfl rfl rfl rfl rfl rfl ?_
  exact k
theorem b149_8 {xs : Nat → Int32} {xl : Nat} {I J : w_I} {b : Bool} {Q : Option Value → w_I → w_I → Bool → Prop} {l1 l2 s0 : Int} (k : ((-2147483648 ≤ s0 ∧ s0 < 2147483648) ∧ ((s0 = 0 → Q (some (w_l (-1))) I J b) ∧ (¬ s0 = 0 → ((-2147483648 ≤ l2 ∧ l2 < 2147483648) ∧ ((l2 < 1 → Q (some (w_l (-1))) I J b) ∧ (¬ l2 < 1 → ((8 < l2 → Q (some (w_l (-1))) I J b) ∧ (¬ 8 < l2 → ((0 ≤ l1 ∧ l1 < 30) ∧ ((-2147483648 ≤ I 29 l1 ∧ I 29 l1 < 2147483648) ∧ ((¬ I 29 l1 = (-1) → w_C xs xl 117 [.ref 102, w_i l1, w_i l2] I J b (fun v Ic Jc bc => w_T xs xl 149 48 [some (.ref 0), some (w_i l1), some (w_i l2)] [] (w_pv v []) Ic Jc bc Q)) ∧ (I 29 l1 = (-1) → Q (some (w_l (-1))) I J b))))))))))))) : w_T xs xl 149 8 [some (.ref 0), some (w_i l1), some (w_i l2)] [] [w_i s0] I J b Q := by
  obtain ⟨h1, k⟩ := k
  refine w_zeq (t := 35) (q := 11) rfl rfl rfl h1 (fun c2 => ?_) (fun c2 => ?_)
  · replace k := k.1 c2
    refine w_ldc2 (q := 38) (n := -1) rfl rfl rfl ?_
    exact w_jret rfl k
  · replace k := k.2 c2
    refine w_iload_n (q := 12) rfl rfl rfl ?_
    refine w_iconst (q := 13) rfl rfl ?_
    obtain ⟨h3, k⟩ := k
    refine w_clt (t := 35) (q := 16) rfl rfl rfl h3 (by decide) (fun c4 => ?_) (fun c4 => ?_)
    · replace k := k.1 c4
      refine w_ldc2 (q := 38) (n := -1) rfl rfl rfl ?_
      exact w_jret rfl k
    · replace k := k.2 c4
      refine w_iload_n (q := 17) rfl rfl rfl ?_
      refine w_bipush (q := 19) rfl rfl rfl ?_
      refine w_cgt (t := 35) (q := 22) rfl rfl rfl h3 (by decide) (fun c5 => ?_) (fun c5 => ?_)
      · replace k := k.1 c5
        refine w_ldc2 (q := 38) (n := -1) rfl rfl rfl ?_
        exact w_jret rfl k
      · replace k := k.2 c5
        refine w_aload_n (q := 23) rfl rfl rfl ?_
        refine w_gfr (q := 26) rfl rfl rfl rfl (j := 20) rfl ?_
        refine w_gfr (q := 29) rfl rfl rfl rfl (j := 29) rfl ?_
        refine w_iload_n (q := 30) rfl rfl rfl ?_
        obtain ⟨h6, k⟩ := k
        refine w_iald (q := 31) (n := 30) (v := I 29 l1) rfl rfl rfl rfl rfl rfl h6 ?_
        refine w_iconst (q := 32) rfl rfl ?_
        obtain ⟨h7, k⟩ := k
        refine w_cne (t := 39) (q := 35) rfl rfl rfl h7 (by decide) (fun c8 => ?_) (fun c8 => ?_)
        · replace k := k.1 c8
          refine w_aload_n (q := 40) rfl rfl rfl ?_
          refine w_gfr (q := 43) rfl rfl rfl rfl (j := 102) rfl ?_
          refine w_iload_n (q := 44) rfl rfl rfl ?_
          refine w_iload_n (q := 45) rfl rfl rfl ?_
          refine w_callv (q := 48) rfl rfl rfl rfl rfl rfl ?_
          exact k
        · replace k := k.2 c8
          refine w_ldc2 (q := 38) (n := -1) rfl rfl rfl ?_
          exact w_jret rfl k
theorem b149_48 {xs : Nat → Int32} {xl : Nat} {I J : w_I} {b : Bool} {Q : Option Value → w_I → w_I → Bool → Prop} {u1 u2 : Option Value} {s0 : Int} (k : Q (some (w_l s0)) I J b) : w_T xs xl 149 48 [some (.ref 0), u1, u2] [] [w_l s0] I J b Q := by
  exact w_jret rfl k
theorem e150 {xs : Nat → Int32} {xl : Nat} {I J : w_I} {b : Bool} {Q : Option Value → w_I → w_I → Bool → Prop} {a1 a2 a3 : Int} (t : w_T xs xl 150 0 [some (.ref 0), some (w_i a1), some (w_i a2), some (w_i a3), none, none] [] [] I J b Q) : w_C xs xl 150 [.ref 0, w_i a1, w_i a2, w_i a3] I J b Q := w_en rfl t
theorem b150_0 {xs : Nat → Int32} {xl : Nat} {I J : w_I} {b : Bool} {Q : Option Value → w_I → w_I → Bool → Prop} {a1 a2 a3 : Int} (k : ((-2147483648 ≤ a1 ∧ a1 < 2147483648) ∧ (-2147483648 ≤ a2 ∧ a2 < 2147483648) ∧ ((a1 = a2 → Q (some (w_i (-1))) I J b) ∧ (¬ a1 = a2 → w_C xs xl 157 [.ref 0, w_i a1] I J b (fun v Ic Jc bc => w_T xs xl 150 10 [some (.ref 0), some (w_i a1), some (w_i a2), some (w_i a3), none, none] [] (w_pv v []) Ic Jc bc Q))))) : w_T xs xl 150 0 [some (.ref 0), some (w_i a1), some (w_i a2), some (w_i a3), none, none] [] [] I J b Q := by
  refine w_iload_n (q := 1) rfl rfl rfl ?_
  refine w_iload_n (q := 2) rfl rfl rfl ?_
  obtain ⟨h1, h2, k⟩ := k
  refine w_ceq (t := 21) (q := 5) rfl rfl rfl h1 h2 (fun c3 => ?_) (fun c3 => ?_)
  · replace k := k.1 c3
    refine w_iconst (q := 22) rfl rfl ?_
    exact w_iret rfl rfl k
  · replace k := k.2 c3
    refine w_aload_n (q := 6) rfl rfl rfl ?_
    refine w_iload_n (q := 7) rfl rfl rfl ?_
    refine w_callv (q := 10) rfl rfl rfl rfl rfl rfl ?_
    exact k
theorem b150_10 {xs : Nat → Int32} {xl : Nat} {I J : w_I} {b : Bool} {Q : Option Value → w_I → w_I → Bool → Prop} {l1 l2 l3 s0 : Int} {u4 u5 : Option Value} (k : ((-2147483648 ≤ s0 ∧ s0 < 2147483648) ∧ ((s0 = 0 → Q (some (w_i (-1))) I J b) ∧ (¬ s0 = 0 → w_C xs xl 157 [.ref 0, w_i l2] I J b (fun v Ic Jc bc => w_T xs xl 150 18 [some (.ref 0), some (w_i l1), some (w_i l2), some (w_i l3), u4, u5] [] (w_pv v []) Ic Jc bc Q))))) : w_T xs xl 150 10 [some (.ref 0), some (w_i l1), some (w_i l2), some (w_i l3), u4, u5] [] [w_i s0] I J b Q := by
  obtain ⟨h1, k⟩ := k
  refine w_zeq (t := 21) (q := 13) rfl rfl rfl h1 (fun c2 => ?_) (fun c2 => ?_)
  · replace k := k.1 c2
    refine w_iconst (q := 22) rfl rfl ?_
    exact w_iret rfl rfl k
  · replace k := k.2 c2
    refine w_aload_n (q := 14) rfl rfl rfl ?_
    refine w_iload_n (q := 15) rfl rfl rfl ?_
    refine w_callv (q := 18) rfl rfl rfl rfl rfl rfl ?_
    exact k
theorem b150_18 {xs : Nat → Int32} {xl : Nat} {I J : w_I} {b : Bool} {Q : Option Value → w_I → w_I → Bool → Prop} {l1 l2 l3 s0 : Int} {u4 u5 : Option Value} (k : ((-2147483648 ≤ s0 ∧ s0 < 2147483648) ∧ ((¬ s0 = 0 → w_C xs xl 104 [.ref 2] I J b (fun v Ic Jc bc => w_T xs xl 150 30 [some (.ref 0), some (w_i l1), some (w_i l2), some (w_i l3), u4, u5] [] (w_pv v []) Ic Jc bc Q)) ∧ (s0 = 0 → Q (some (w_i (-1))) I J b)))) : w_T xs xl 150 18 [some (.ref 0), some (w_i l1), some (w_i l2), some (w_i l3), u4, u5] [] [w_i s0] I J b Q := by
  obtain ⟨h1, k⟩ := k
  refine w_zne (t := 23) (q := 21) rfl rfl rfl h1 (fun c2 => ?_) (fun c2 => ?_)
  · replace k := k.1 c2
    refine w_aload_n (q := 24) rfl rfl rfl ?_
    refine w_gfr (q := 27) rfl rfl rfl rfl (j := 2) rfl ?_
    refine w_callv (q := 30) rfl rfl rfl rfl rfl rfl ?_
    exact k
  · replace k := k.2 c2
    refine w_iconst (q := 22) rfl rfl ?_
    exact w_iret rfl rfl k
theorem b150_30 {xs : Nat → Int32} {xl : Nat} {I J : w_I} {b : Bool} {Q : Option Value → w_I → w_I → Bool → Prop} {l1 l2 l3 s0 : Int} {u4 u5 : Option Value} (k : ((-2147483648 ≤ s0 ∧ s0 < 2147483648) ∧ ((¬ s0 = 0 → Q (some (w_i (-2))) I J b) ∧ (s0 = 0 → ((0 ≤ l1 ∧ l1 < 30) ∧ ((0 ≤ l2 ∧ l2 < 30) ∧ ((-2147483648 ≤ I 26 l1 + I 26 l2 ∧ I 26 l1 + I 26 l2 < 2147483648) ∧ ((I 26 l1 + I 26 l2 ≤ 6 → w_C xs xl 4 [.ref 34, .ref 20] I J b (fun v Ic Jc bc => w_T xs xl 150 71 [some (.ref 0), some (w_i l1), some (w_i l2), some (w_i l3), u4, u5] [] (w_pv v []) Ic Jc bc Q)) ∧ (¬ I 26 l1 + I 26 l2 ≤ 6 → Q (some (w_i (-2))) I J b))))))))) : w_T xs xl 150 30 [some (.ref 0), some (w_i l1), some (w_i l2), some (w_i l3), u4, u5] [] [w_i s0] I J b Q := by
  obtain ⟨h1, k⟩ := k
  refine w_zne (t := 57) (q := 33) rfl rfl rfl h1 (fun c2 => ?_) (fun c2 => ?_)
  · replace k := k.1 c2
    refine w_bipush (q := 59) rfl rfl rfl ?_
    exact w_iret rfl rfl k
  · replace k := k.2 c2
    refine w_aload_n (q := 34) rfl rfl rfl ?_
    refine w_gfr (q := 37) rfl rfl rfl rfl (j := 20) rfl ?_
    refine w_gfr (q := 40) rfl rfl rfl rfl (j := 26) rfl ?_
    refine w_iload_n (q := 41) rfl rfl rfl ?_
    obtain ⟨h3, k⟩ := k
    refine w_iald (q := 42) (n := 30) (v := I 26 l1) rfl rfl rfl rfl rfl rfl h3 ?_
    refine w_aload_n (q := 43) rfl rfl rfl ?_
    refine w_gfr (q := 46) rfl rfl rfl rfl (j := 20) rfl ?_
    refine w_gfr (q := 49) rfl rfl rfl rfl (j := 26) rfl ?_
    refine w_iload_n (q := 50) rfl rfl rfl ?_
    obtain ⟨h4, k⟩ := k
    refine w_iald (q := 51) (n := 30) (v := I 26 l2) rfl rfl rfl rfl rfl rfl h4 ?_
    refine w_iadd (q := 52) rfl rfl ?_
    refine w_bipush (q := 54) rfl rfl rfl ?_
    obtain ⟨h5, k⟩ := k
    refine w_cle (t := 60) (q := 57) rfl rfl rfl h5 (by decide) (fun c6 => ?_) (fun c6 => ?_)
    · replace k := k.1 c6
      refine w_aload_n (q := 61) rfl rfl rfl ?_
      refine w_gfr (q := 64) rfl rfl rfl rfl (j := 34) rfl ?_
      refine w_aload_n (q := 65) rfl rfl rfl ?_
      refine w_gfr (q := 68) rfl rfl rfl rfl (j := 20) rfl ?_
      refine w_callv (q := 71) rfl rfl rfl rfl rfl rfl ?_
      exact k
    · replace k := k.2 c6
      refine w_bipush (q := 59) rfl rfl rfl ?_
      exact w_iret rfl rfl k
theorem b150_71 {xs : Nat → Int32} {xl : Nat} {I J : w_I} {b : Bool} {Q : Option Value → w_I → w_I → Bool → Prop} {l1 l2 l3 : Int} {u4 u5 : Option Value} (k : ((-2147483648 ≤ l3 ∧ l3 < 2147483648) ∧ ((l3 = 0 → ((0 ≤ l1 ∧ l1 < 30) ∧ w_C xs xl 17 [.ref 20, w_i l1, w_i l2] I J b (fun v Ic Jc bc => w_T xs xl 150 107 [some (.ref 0), some (w_i l1), some (w_i l2), some (w_i l3), some (w_i (I 28 l1)), u5] [] (w_pv v []) Ic Jc bc Q))) ∧ (¬ l3 = 0 → ((0 ≤ l2 ∧ l2 < 30) ∧ w_C xs xl 17 [.ref 20, w_i l1, w_i l2] I J b (fun v Ic Jc bc => w_T xs xl 150 107 [some (.ref 0), some (w_i l1), some (w_i l2), some (w_i l3), some (w_i (I 28 l2)), u5] [] (w_pv v []) Ic Jc bc Q)))))) : w_T xs xl 150 71 [some (.ref 0), some (w_i l1), some (w_i l2), some (w_i l3), u4, u5] [] [] I J b Q := by
  refine w_iload_n (q := 72) rfl rfl rfl ?_
  obtain ⟨h1, k⟩ := k
  refine w_zeq (t := 87) (q := 75) rfl rfl rfl h1 (fun c2 => ?_) (fun c2 => ?_)
  · replace k := k.1 c2
    refine w_aload_n (q := 88) rfl rfl rfl ?_
    refine w_gfr (q := 91) rfl rfl rfl rfl (j := 20) rfl ?_
    refine w_gfr (q := 94) rfl rfl rfl rfl (j := 28) rfl ?_
    refine w_iload_n (q := 95) rfl rfl rfl ?_
    obtain ⟨h3, k⟩ := k
    refine w_iald (q := 96) (n := 30) (v := I 28 l1) rfl rfl rfl rfl rfl rfl h3 ?_
    refine w_istore (q := 98) (L' := [some (.ref 0), some (w_i l1), some (w_i l2), some (w_i l3), some (w_i (I 28 l1)), u5]) (M' := []) rfl rfl rfl rfl rfl ?_
    refine w_aload_n (q := 99) rfl rfl rfl ?_
    refine w_gfr (q := 102) rfl rfl rfl rfl (j := 20) rfl ?_
    refine w_iload_n (q := 103) rfl rfl rfl ?_
    refine w_iload_n (q := 104) rfl rfl rfl ?_
    refine w_callv (q := 107) rfl rfl rfl rfl rfl rfl ?_
    exact k
  · replace k := k.2 c2
    refine w_aload_n (q := 76) rfl rfl rfl ?_
    refine w_gfr (q := 79) rfl rfl rfl rfl (j := 20) rfl ?_
    refine w_gfr (q := 82) rfl rfl rfl rfl (j := 28) rfl ?_
    refine w_iload_n (q := 83) rfl rfl rfl ?_
    obtain ⟨h4, k⟩ := k
    refine w_iald (q := 84) (n := 30) (v := I 28 l2) rfl rfl rfl rfl rfl rfl h4 ?_
    refine w_goto (t := 96) rfl rfl ?_
    refine w_istore (q := 98) (L' := [some (.ref 0), some (w_i l1), some (w_i l2), some (w_i l3), some (w_i (I 28 l2)), u5]) (M' := []) rfl rfl rfl rfl rfl ?_
    refine w_aload_n (q := 99) rfl rfl rfl ?_
    refine w_gfr (q := 102) rfl rfl rfl rfl (j := 20) rfl ?_
    refine w_iload_n (q := 103) rfl rfl rfl ?_
    refine w_iload_n (q := 104) rfl rfl rfl ?_
    refine w_callv (q := 107) rfl rfl rfl rfl rfl rfl ?_
    exact k
theorem b150_107 {xs : Nat → Int32} {xl : Nat} {I J : w_I} {b : Bool} {Q : Option Value → w_I → w_I → Bool → Prop} {l1 l4 : Int} {u2 u3 u5 : Option Value} (k : w_C xs xl 16 [.ref 20, w_i l1, w_i l4] I J b (fun v Ic Jc bc => w_T xs xl 150 117 [some (.ref 0), some (w_i l1), u2, u3, some (w_i l4), u5] [] (w_pv v []) Ic Jc bc Q)) : w_T xs xl 150 107 [some (.ref 0), some (w_i l1), u2, u3, some (w_i l4), u5] [] [] I J b Q := by
  refine w_aload_n (q := 108) rfl rfl rfl ?_
  refine w_gfr (q := 111) rfl rfl rfl rfl (j := 20) rfl ?_
  refine w_iload_n (q := 112) rfl rfl rfl ?_
  refine w_iload (q := 114) rfl rfl rfl ?_
  refine w_callv (q := 117) rfl rfl rfl rfl rfl rfl ?_
  exact k
theorem b150_117 {xs : Nat → Int32} {xl : Nat} {I J : w_I} {b : Bool} {Q : Option Value → w_I → w_I → Bool → Prop} {u1 u2 u3 u4 u5 : Option Value} (k : w_C xs xl 55 [.ref 89, w_i (I 2 6)] I J b (fun v Ic Jc bc => w_T xs xl 150 131 [some (.ref 0), u1, u2, u3, u4, u5] [] (w_pv v []) Ic Jc bc Q)) : w_T xs xl 150 117 [some (.ref 0), u1, u2, u3, u4, u5] [] [] I J b Q := by
  refine w_aload_n (q := 118) rfl rfl rfl ?_
  refine w_gfr (q := 121) rfl rfl rfl rfl (j := 89) rfl ?_
  refine w_aload_n (q := 122) rfl rfl rfl ?_
  refine w_gfr (q := 125) rfl rfl rfl rfl (j := 2) rfl ?_
  refine w_gfi (q := 128) (k' := 6) (v := I 2 6) rfl rfl rfl rfl rfl rfl rfl ?_
  refine w_callv (q := 131) rfl rfl rfl rfl rfl rfl ?_
  exact k
theorem b150_131 {xs : Nat → Int32} {xl : Nat} {I J : w_I} {b : Bool} {Q : Option Value → w_I → w_I → Bool → Prop} {u1 u2 u3 u4 u5 : Option Value} {s0 : Int} (k : w_C xs xl 4 [.ref 20, .ref 34] I J b (fun v Ic Jc bc => w_T xs xl 150 144 [some (.ref 0), u1, u2, u3, u4, some (w_i s0)] [] (w_pv v []) Ic Jc bc Q)) : w_T xs xl 150 131 [some (.ref 0), u1, u2, u3, u4, u5] [] [w_i s0] I J b Q := by
  refine w_istore (q := 133) (L' := [some (.ref 0), u1, u2, u3, u4, some (w_i s0)]) (M' := []) rfl rfl rfl rfl rfl ?_
  refine w_aload_n (q := 134) rfl rfl rfl ?_
  refine w_gfr (q := 137) rfl rfl rfl rfl (j := 20) rfl ?_
  refine w_aload_n (q := 138) rfl rfl rfl ?_
  refine w_gfr (q := 141) rfl rfl rfl rfl (j := 34) rfl ?_
  refine w_callv (q := 144) rfl rfl rfl rfl rfl rfl ?_
  exact k
theorem b150_144 {xs : Nat → Int32} {xl : Nat} {I J : w_I} {b : Bool} {Q : Option Value → w_I → w_I → Bool → Prop} {u1 u2 u3 u4 : Option Value} {l5 : Int} (k : Q (some (w_i l5)) I J b) : w_T xs xl 150 144 [some (.ref 0), u1, u2, u3, u4, some (w_i l5)] [] [] I J b Q := by
  refine w_iload (q := 146) rfl rfl rfl ?_
  exact w_iret rfl rfl k
theorem e151 {xs : Nat → Int32} {xl : Nat} {I J : w_I} {b : Bool} {Q : Option Value → w_I → w_I → Bool → Prop} {a1 a2 a3 : Int} (t : w_T xs xl 151 0 [some (.ref 0), some (w_i a1), some (w_i a2), some (w_i a3)] [] [] I J b Q) : w_C xs xl 151 [.ref 0, w_i a1, w_i a2, w_i a3] I J b Q := w_en rfl t
theorem b151_0 {xs : Nat → Int32} {xl : Nat} {I J : w_I} {b : Bool} {Q : Option Value → w_I → w_I → Bool → Prop} {a1 a2 a3 : Int} (k : ((-2147483648 ≤ a2 ∧ a2 < 2147483648) ∧ ((a2 < 1 → Q (some (w_i (-1))) I J b) ∧ (¬ a2 < 1 → ((40 < a2 → Q (some (w_i (-1))) I J b) ∧ (¬ 40 < a2 → ((-2147483648 ≤ a3 ∧ a3 < 2147483648) ∧ ((a3 < 0 → Q (some (w_i (-1))) I J b) ∧ (¬ a3 < 0 → ((a3 ≤ 3 → ((-2147483648 ≤ I 20 15 + a2 * 12 ∧ I 20 15 + a2 * 12 < 2147483648) ∧ ((I 20 15 + a2 * 12 ≤ 1200 → w_C xs xl 104 [.ref 2] I J b (fun v Ic Jc bc => w_T xs xl 151 49 [some (.ref 0), some (w_i a1), some (w_i a2), some (w_i a3)] [] (w_pv v []) Ic Jc bc Q)) ∧ (¬ I 20 15 + a2 * 12 ≤ 1200 → Q (some (w_i (-1))) I J b)))) ∧ (¬ a3 ≤ 3 → Q (some (w_i (-1))) I J b))))))))))) : w_T xs xl 151 0 [some (.ref 0), some (w_i a1), some (w_i a2), some (w_i a3)] [] [] I J b Q := by
  refine w_iload_n (q := 1) rfl rfl rfl ?_
  refine w_iconst (q := 2) rfl rfl ?_
  obtain ⟨h1, k⟩ := k
  refine w_clt (t := 20) (q := 5) rfl rfl rfl h1 (by decide) (fun c2 => ?_) (fun c2 => ?_)
  · replace k := k.1 c2
    refine w_iconst (q := 21) rfl rfl ?_
    exact w_iret rfl rfl k
  · replace k := k.2 c2
    refine w_iload_n (q := 6) rfl rfl rfl ?_
    refine w_bipush (q := 8) rfl rfl rfl ?_
    refine w_cgt (t := 20) (q := 11) rfl rfl rfl h1 (by decide) (fun c3 => ?_) (fun c3 => ?_)
    · replace k := k.1 c3
      refine w_iconst (q := 21) rfl rfl ?_
      exact w_iret rfl rfl k
    · replace k := k.2 c3
      refine w_iload_n (q := 12) rfl rfl rfl ?_
      obtain ⟨h4, k⟩ := k
      refine w_zlt (t := 20) (q := 15) rfl rfl rfl h4 (fun c5 => ?_) (fun c5 => ?_)
      · replace k := k.1 c5
        refine w_iconst (q := 21) rfl rfl ?_
        exact w_iret rfl rfl k
      · replace k := k.2 c5
        refine w_iload_n (q := 16) rfl rfl rfl ?_
        refine w_iconst (q := 17) rfl rfl ?_
        refine w_cle (t := 22) (q := 20) rfl rfl rfl h4 (by decide) (fun c6 => ?_) (fun c6 => ?_)
        · replace k := k.1 c6
          refine w_aload_n (q := 23) rfl rfl rfl ?_
          refine w_gfr (q := 26) rfl rfl rfl rfl (j := 20) rfl ?_
          refine w_gfi (q := 29) (k' := 15) (v := I 20 15) rfl rfl rfl rfl rfl rfl rfl ?_
          refine w_iload_n (q := 30) rfl rfl rfl ?_
          refine w_bipush (q := 32) rfl rfl rfl ?_
          refine w_imul (q := 33) rfl rfl ?_
          refine w_iadd (q := 34) rfl rfl ?_
          refine w_sipush (q := 37) rfl rfl rfl ?_
          obtain ⟨h7, k⟩ := k
          refine w_cle (t := 42) (q := 40) rfl rfl rfl h7 (by decide) (fun c8 => ?_) (fun c8 => ?_)
          · replace k := k.1 c8
            refine w_aload_n (q := 43) rfl rfl rfl ?_
            refine w_gfr (q := 46) rfl rfl rfl rfl (j := 2) rfl ?_
            refine w_callv (q := 49) rfl rfl rfl rfl rfl rfl ?_
            exact k
          · replace k := k.2 c8
            refine w_iconst (q := 41) rfl rfl ?_
            exact w_iret rfl rfl k
        · replace k := k.2 c6
          refine w_iconst (q := 21) rfl rfl ?_
          exact w_iret rfl rfl k
theorem b151_49 {xs : Nat → Int32} {xl : Nat} {I J : w_I} {b : Bool} {Q : Option Value → w_I → w_I → Bool → Prop} {l1 l2 l3 s0 : Int} (k : ((-2147483648 ≤ s0 ∧ s0 < 2147483648) ∧ ((s0 = 0 → w_C xs xl 38 [.ref 103, w_i l1, w_i l2, w_i l3] I J b (fun v Ic Jc bc => w_T xs xl 151 67 [some (.ref 0), some (w_i l1), some (w_i l2), some (w_i l3)] [] (w_pv v []) Ic Jc bc Q)) ∧ (¬ s0 = 0 → Q (some (w_i (-2))) I J b)))) : w_T xs xl 151 49 [some (.ref 0), some (w_i l1), some (w_i l2), some (w_i l3)] [] [w_i s0] I J b Q := by
  obtain ⟨h1, k⟩ := k
  refine w_zeq (t := 57) (q := 52) rfl rfl rfl h1 (fun c2 => ?_) (fun c2 => ?_)
  · replace k := k.1 c2
    refine w_aload_n (q := 58) rfl rfl rfl ?_
    refine w_gfr (q := 61) rfl rfl rfl rfl (j := 103) rfl ?_
    refine w_iload_n (q := 62) rfl rfl rfl ?_
    refine w_iload_n (q := 63) rfl rfl rfl ?_
    refine w_iload_n (q := 64) rfl rfl rfl ?_
    refine w_callv (q := 67) rfl rfl rfl rfl rfl rfl ?_
    exact k
  · replace k := k.2 c2
    refine w_bipush (q := 54) rfl rfl rfl ?_
    refine w_goto (t := 67) rfl rfl ?_
    exact w_iret rfl rfl k
theorem b151_67 {xs : Nat → Int32} {xl : Nat} {I J : w_I} {b : Bool} {Q : Option Value → w_I → w_I → Bool → Prop} {u1 u2 u3 : Option Value} {s0 : Int} (k : Q (some (w_i s0)) I J b) : w_T xs xl 151 67 [some (.ref 0), u1, u2, u3] [] [w_i s0] I J b Q := by
  exact w_iret rfl rfl k
theorem e152 {xs : Nat → Int32} {xl : Nat} {I J : w_I} {b : Bool} {Q : Option Value → w_I → w_I → Bool → Prop} {a1 : Int} (t : w_T xs xl 152 0 [some (.ref 0), some (w_i a1)] [] [] I J b Q) : w_C xs xl 152 [.ref 0, w_i a1] I J b Q := w_en rfl t
theorem b152_0 {xs : Nat → Int32} {xl : Nat} {I J : w_I} {b : Bool} {Q : Option Value → w_I → w_I → Bool → Prop} {a1 : Int} (k : ((-2147483648 ≤ a1 ∧ a1 < 2147483648) ∧ ((a1 < 0 → Q (some (w_i 0)) I J b) ∧ (¬ a1 < 0 → ((a1 < 2 → ((0 ≤ a1 ∧ a1 < 2) ∧ ((a1 = 0 → w_C xs xl 4 [.ref 50, .ref 20] I J b (fun v Ic Jc bc => w_T xs xl 152 24 [some (.ref 0), some (w_i a1)] [] (w_pv v []) Ic Jc bc Q)) ∧ (¬ a1 = 0 → w_C xs xl 4 [.ref 64, .ref 20] I J b (fun v Ic Jc bc => w_T xs xl 152 24 [some (.ref 0), some (w_i a1)] [] (w_pv v []) Ic Jc bc Q))))) ∧ (¬ a1 < 2 → Q (some (w_i 0)) I J b)))))) : w_T xs xl 152 0 [some (.ref 0), some (w_i a1)] [] [] I J b Q := by
  refine w_iload_n (q := 1) rfl rfl rfl ?_
  obtain ⟨h1, k⟩ := k
  refine w_zlt (t := 9) (q := 4) rfl rfl rfl h1 (fun c2 => ?_) (fun c2 => ?_)
  · replace k := k.1 c2
    refine w_iconst (q := 10) rfl rfl ?_
    refine w_iret rfl rfl k
  · replace k := k.2 c2
    refine w_iload_n (q := 5) rfl rfl rfl ?_
    refine w_iconst (q := 6) rfl rfl ?_
    refine w_clt (t := 11) (q := 9) rfl rfl rfl h1 (by decide) (fun c3 => ?_) (fun c3 => ?_)
    · replace k := k.1 c3
      refine w_aload_n (q := 12) rfl rfl rfl ?_
      refine w_gfr (q := 15) rfl rfl rfl rfl (j := 48) rfl ?_
      refine w_iload_n (q := 16) rfl rfl rfl ?_
      obtain ⟨h4, k⟩ := k
      rcases Decidable.em (a1 = 0) with c9 | c9
      · replace k := k.1 c9
        refine w_aald (q := 17) (n := 2) (j := 50) rfl rfl rfl rfl h4 (by rw [c9]; rfl) ?_
        refine w_aload_n (q := 18) rfl rfl rfl ?_
        refine w_gfr (q := 21) rfl rfl rfl rfl (j := 20) rfl ?_
        refine w_callv (q := 24) rfl rfl rfl rfl rfl rfl ?_
        exact k
      · replace k := k.2 c9
        refine w_aald (q := 17) (n := 2) (j := 64) rfl rfl rfl rfl h4 (by rw [show a1 = 1 by omega]; rfl) ?_
        refine w_aload_n (q := 18) rfl rfl rfl ?_
        refine w_gfr (q := 21) rfl rfl rfl rfl (j := 20) rfl ?_
        refine w_callv (q := 24) rfl rfl rfl rfl rfl rfl ?_
        exact k
    · replace k := k.2 c3
      refine w_iconst (q := 10) rfl rfl ?_
      refine w_iret rfl rfl k
theorem b152_24 {xs : Nat → Int32} {xl : Nat} {I J : w_I} {b : Bool} {Q : Option Value → w_I → w_I → Bool → Prop} {l1 : Int} (k : ((0 ≤ l1 ∧ l1 < 2) ∧ Q (some (w_i 1)) (w_U I 49 l1 1) J b)) : w_T xs xl 152 24 [some (.ref 0), some (w_i l1)] [] [] I J b Q := by
  refine w_aload_n (q := 25) rfl rfl rfl ?_
  refine w_gfr (q := 28) rfl rfl rfl rfl (j := 49) rfl ?_
  refine w_iload_n (q := 29) rfl rfl rfl ?_
  refine w_iconst (q := 30) rfl rfl ?_
  obtain ⟨h1, k⟩ := k
  refine w_bast2 (q := 31) (n := 2) rfl rfl rfl rfl rfl (by decide) h1 ?_
  refine w_iconst (q := 32) rfl rfl ?_
  refine w_iret rfl rfl k
end
