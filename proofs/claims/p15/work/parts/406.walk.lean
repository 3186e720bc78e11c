def f_X12_isTold (N n : Nat) (σ : Sg) (p0 : Int32) (p1 : Int32) (p2 : Int32) : Option (Int32 × Sg) := if p1 < 0 then (some (0, σ)) else (if p1 ≤ 17 then (if p1 = 1 then (if p2 < 0 then (some (0, σ)) else (gb p0 12 (if (σ 61 (ix p0)) ≤ p2 then (some (0, σ)) else (some (1, σ))))) else (if p1 = 2 then (if p2 < 0 then (some (0, σ)) else (gb p0 12 (if (σ 61 (ix p0)) ≤ p2 then (some (0, σ)) else (some (1, σ))))) else (if p1 = 12 then (if p2 < 0 then (some (0, σ)) else (gb p0 12 (if (σ 63 (ix p0)) ≤ p2 then (some (0, σ)) else (some (1, σ))))) else (if p1 = 13 then (if p2 < 0 then (some (0, σ)) else (gb p0 12 (if (σ 63 (ix p0)) ≤ p2 then (some (0, σ)) else (some (1, σ))))) else (if p1 = 14 then (if p2 < 0 then (some (0, σ)) else (if (σ 59 1) ≤ p2 then (some (0, σ)) else (some (1, σ)))) else (some (1, σ))))))) else (some (0, σ)))
set_option maxHeartbeats 4000000 in
set_option maxRecDepth 100000 in
theorem c_X12_isTold {l : Launch} {g : GG} {q : Nat} (N n : Nat) {σ : Sg} {p0 : Int32} {p1 : Int32} {p2 : Int32} {r : Int32} {σ' : Sg} (hm : f_X12_isTold N n σ p0 p1 p2 = some (r, σ')) : CTi l yX12_isTold cX12_isTold 4 (some .boolean) 0 0 g q n [.ref (ga g 59), .int p0, .int p1, .int p2] σ r σ' := by
  refine e_z (r := r) (by decide) (Nat.le_of_ble_eq_true rfl) ?_
  intro p e s m args below meth c A Q ls hC hl hI
  obtain ⟨hX, hK, hN, hZ, hA, hR⟩ := id hC
  have hx : p.tables.exec = Jvm.exec := hX.1
  have hb : c.code = cX12_isTold := hX.2.1
  have hml : c.maxLocals = 4 := hX.2.2.1
  have hown : s.vm.findClass RX12 = some m.cls := hX.2.2.2.1
  have ht : ∀ w ∈ BIG, w.before args s = true := hX.2.2.2.2
  have hl : lv_has ls 4 [(0, .ref (ga g 59)), (1, .int p0), (2, .int p1), (3, .int p2)] := hl
  unfold f_X12_isTold at hm
  refine lv_iload_n hx hb dX12_isTold_0 rfl (lv_at hl 2 rfl) ?_
  refine lv_if_lt (tgt := 10) hx hb dX12_isTold_1 (by decide) (fun c1 => ?_) (fun c1 => ?_)
  · have hm := (if_pos c1).symm.trans hm
    refine lv_iconst (v := 0) hx hb dX12_isTold_10 (by decide) ?_
    exact hR _ _ _ _ _ _ hm hI (by decide) dX12_isTold_11
  · have hm := (if_neg c1).symm.trans hm
    refine lv_iload_n hx hb dX12_isTold_4 rfl (lv_at hl 2 rfl) ?_
    refine lv_bipush (v := 17) hx hb dX12_isTold_5 (by decide) ?_
    refine lv_icmp_le (tgt := 12) hx hb dX12_isTold_7 (by decide) (fun c2 => ?_) (fun c2 => ?_)
    · have hm := (if_pos c2).symm.trans hm
      refine lv_iload_n hx hb dX12_isTold_12 rfl (lv_at hl 2 rfl) ?_
      refine lv_iconst (v := 1) hx hb dX12_isTold_13 (by decide) ?_
      refine lv_icmp_eq (tgt := 22) hx hb dX12_isTold_14 (by decide) (fun c3 => ?_) (fun c3 => ?_)
      · have hm := (if_pos c3).symm.trans hm
        refine lv_iload_n hx hb dX12_isTold_22 rfl (lv_at hl 3 rfl) ?_
        refine lv_if_lt (tgt := 40) hx hb dX12_isTold_23 (by decide) (fun c4 => ?_) (fun c4 => ?_)
        · have hm := (if_pos c4).symm.trans hm
          refine lv_iconst (v := 0) hx hb dX12_isTold_40 (by decide) ?_
          exact hR _ _ _ _ _ _ hm hI (by decide) dX12_isTold_41
        · have hm := (if_neg c4).symm.trans hm
          refine lv_iload_n hx hb dX12_isTold_26 rfl (lv_at hl 3 rfl) ?_
          refine lv_aload_n hx hb dX12_isTold_27 rfl (lv_at hl 0 rfl) ?_
          refine gf_59_3 hx hb ht hK hI mw_756 (fun _ h9 => h9) hown dX12_isTold_28 ?_
          refine lv_iload_n hx hb dX12_isTold_31 rfl (lv_at hl 1 rfl) ?_
          obtain ⟨g5, hm⟩ := gb_some hm
          refine ld_61 hx hb hK hI g5 (v := σ 61 (ix p0)) rfl dX12_isTold_32 ?_
          refine lv_icmp_ge (tgt := 40) hx hb dX12_isTold_33 (by decide) (fun c6 => ?_) (fun c6 => ?_)
          · have hm := (if_pos c6).symm.trans hm
            refine lv_iconst (v := 0) hx hb dX12_isTold_40 (by decide) ?_
            exact hR _ _ _ _ _ _ hm hI (by decide) dX12_isTold_41
          · have hm := (if_neg c6).symm.trans hm
            refine lv_iconst (v := 1) hx hb dX12_isTold_36 (by decide) ?_
            refine lv_goto (tgt := 41) hx hb dX12_isTold_37 (by decide) ?_
            exact hR _ _ _ _ _ _ hm hI (by decide) dX12_isTold_41
      · have hm := (if_neg c3).symm.trans hm
        refine lv_iload_n hx hb dX12_isTold_17 rfl (lv_at hl 2 rfl) ?_
        refine lv_iconst (v := 2) hx hb dX12_isTold_18 (by decide) ?_
        refine lv_icmp_ne (tgt := 42) hx hb dX12_isTold_19 (by decide) (fun c7 => ?_) (fun c7 => ?_)
        · have hm := (if_neg c7).symm.trans hm
          refine lv_iload_n hx hb dX12_isTold_42 rfl (lv_at hl 2 rfl) ?_
          refine lv_bipush (v := 12) hx hb dX12_isTold_43 (by decide) ?_
          refine lv_icmp_eq (tgt := 54) hx hb dX12_isTold_45 (by decide) (fun c8 => ?_) (fun c8 => ?_)
          · have hm := (if_pos c8).symm.trans hm
            refine lv_iload_n hx hb dX12_isTold_54 rfl (lv_at hl 3 rfl) ?_
            refine lv_if_lt (tgt := 72) hx hb dX12_isTold_55 (by decide) (fun c9 => ?_) (fun c9 => ?_)
            · have hm := (if_pos c9).symm.trans hm
              refine lv_iconst (v := 0) hx hb dX12_isTold_72 (by decide) ?_
              exact hR _ _ _ _ _ _ hm hI (by decide) dX12_isTold_73
            · have hm := (if_neg c9).symm.trans hm
              refine lv_iload_n hx hb dX12_isTold_58 rfl (lv_at hl 3 rfl) ?_
              refine lv_aload_n hx hb dX12_isTold_59 rfl (lv_at hl 0 rfl) ?_
              refine gf_59_5 hx hb ht hK hI mw_758 (fun _ h9 => h9) hown dX12_isTold_60 ?_
              refine lv_iload_n hx hb dX12_isTold_63 rfl (lv_at hl 1 rfl) ?_
              obtain ⟨g10, hm⟩ := gb_some hm
              refine ld_63 hx hb hK hI g10 (v := σ 63 (ix p0)) rfl dX12_isTold_64 ?_
              refine lv_icmp_ge (tgt := 72) hx hb dX12_isTold_65 (by decide) (fun c11 => ?_) (fun c11 => ?_)
              · have hm := (if_pos c11).symm.trans hm
                refine lv_iconst (v := 0) hx hb dX12_isTold_72 (by decide) ?_
                exact hR _ _ _ _ _ _ hm hI (by decide) dX12_isTold_73
              · have hm := (if_neg c11).symm.trans hm
                refine lv_iconst (v := 1) hx hb dX12_isTold_68 (by decide) ?_
                refine lv_goto (tgt := 73) hx hb dX12_isTold_69 (by decide) ?_
                exact hR _ _ _ _ _ _ hm hI (by decide) dX12_isTold_73
          · have hm := (if_neg c8).symm.trans hm
            refine lv_iload_n hx hb dX12_isTold_48 rfl (lv_at hl 2 rfl) ?_
            refine lv_bipush (v := 13) hx hb dX12_isTold_49 (by decide) ?_
            refine lv_icmp_ne (tgt := 74) hx hb dX12_isTold_51 (by decide) (fun c12 => ?_) (fun c12 => ?_)
            · have hm := (if_neg c12).symm.trans hm
              refine lv_iload_n hx hb dX12_isTold_74 rfl (lv_at hl 2 rfl) ?_
              refine lv_bipush (v := 14) hx hb dX12_isTold_75 (by decide) ?_
              refine lv_icmp_ne (tgt := 92) hx hb dX12_isTold_77 (by decide) (fun c13 => ?_) (fun c13 => ?_)
              · have hm := (if_neg c13).symm.trans hm
                refine lv_iconst (v := 1) hx hb dX12_isTold_92 (by decide) ?_
                refine lv_goto (tgt := 97) hx hb dX12_isTold_93 (by decide) ?_
                exact hR _ _ _ _ _ _ hm hI (by decide) dX12_isTold_97
              · have hm := (if_pos c13).symm.trans hm
                refine lv_iload_n hx hb dX12_isTold_80 rfl (lv_at hl 3 rfl) ?_
                refine lv_if_lt (tgt := 96) hx hb dX12_isTold_81 (by decide) (fun c14 => ?_) (fun c14 => ?_)
                · have hm := (if_pos c14).symm.trans hm
                  refine lv_iconst (v := 0) hx hb dX12_isTold_96 (by decide) ?_
                  exact hR _ _ _ _ _ _ hm hI (by decide) dX12_isTold_97
                · have hm := (if_neg c14).symm.trans hm
                  refine lv_iload_n hx hb dX12_isTold_84 rfl (lv_at hl 3 rfl) ?_
                  refine lv_aload_n hx hb dX12_isTold_85 rfl (lv_at hl 0 rfl) ?_
                  refine gf_59_1 hx hb ht hK hI (v := σ 59 1) rfl mw_852 (fun _ h9 => h9) hown dX12_isTold_86 ?_
                  refine lv_icmp_ge (tgt := 96) hx hb dX12_isTold_89 (by decide) (fun c15 => ?_) (fun c15 => ?_)
                  · have hm := (if_pos c15).symm.trans hm
                    refine lv_iconst (v := 0) hx hb dX12_isTold_96 (by decide) ?_
                    exact hR _ _ _ _ _ _ hm hI (by decide) dX12_isTold_97
                  · have hm := (if_neg c15).symm.trans hm
                    refine lv_iconst (v := 1) hx hb dX12_isTold_92 (by decide) ?_
                    refine lv_goto (tgt := 97) hx hb dX12_isTold_93 (by decide) ?_
                    exact hR _ _ _ _ _ _ hm hI (by decide) dX12_isTold_97
            · have hm := (if_pos c12).symm.trans hm
              refine lv_iload_n hx hb dX12_isTold_54 rfl (lv_at hl 3 rfl) ?_
              refine lv_if_lt (tgt := 72) hx hb dX12_isTold_55 (by decide) (fun c16 => ?_) (fun c16 => ?_)
              · have hm := (if_pos c16).symm.trans hm
                refine lv_iconst (v := 0) hx hb dX12_isTold_72 (by decide) ?_
                exact hR _ _ _ _ _ _ hm hI (by decide) dX12_isTold_73
              · have hm := (if_neg c16).symm.trans hm
                refine lv_iload_n hx hb dX12_isTold_58 rfl (lv_at hl 3 rfl) ?_
                refine lv_aload_n hx hb dX12_isTold_59 rfl (lv_at hl 0 rfl) ?_
                refine gf_59_5 hx hb ht hK hI mw_758 (fun _ h9 => h9) hown dX12_isTold_60 ?_
                refine lv_iload_n hx hb dX12_isTold_63 rfl (lv_at hl 1 rfl) ?_
                obtain ⟨g17, hm⟩ := gb_some hm
                refine ld_63 hx hb hK hI g17 (v := σ 63 (ix p0)) rfl dX12_isTold_64 ?_
                refine lv_icmp_ge (tgt := 72) hx hb dX12_isTold_65 (by decide) (fun c18 => ?_) (fun c18 => ?_)
                · have hm := (if_pos c18).symm.trans hm
                  refine lv_iconst (v := 0) hx hb dX12_isTold_72 (by decide) ?_
                  exact hR _ _ _ _ _ _ hm hI (by decide) dX12_isTold_73
                · have hm := (if_neg c18).symm.trans hm
                  refine lv_iconst (v := 1) hx hb dX12_isTold_68 (by decide) ?_
                  refine lv_goto (tgt := 73) hx hb dX12_isTold_69 (by decide) ?_
                  exact hR _ _ _ _ _ _ hm hI (by decide) dX12_isTold_73
        · have hm := (if_pos c7).symm.trans hm
          refine lv_iload_n hx hb dX12_isTold_22 rfl (lv_at hl 3 rfl) ?_
          refine lv_if_lt (tgt := 40) hx hb dX12_isTold_23 (by decide) (fun c19 => ?_) (fun c19 => ?_)
          · have hm := (if_pos c19).symm.trans hm
            refine lv_iconst (v := 0) hx hb dX12_isTold_40 (by decide) ?_
            exact hR _ _ _ _ _ _ hm hI (by decide) dX12_isTold_41
          · have hm := (if_neg c19).symm.trans hm
            refine lv_iload_n hx hb dX12_isTold_26 rfl (lv_at hl 3 rfl) ?_
            refine lv_aload_n hx hb dX12_isTold_27 rfl (lv_at hl 0 rfl) ?_
            refine gf_59_3 hx hb ht hK hI mw_756 (fun _ h9 => h9) hown dX12_isTold_28 ?_
            refine lv_iload_n hx hb dX12_isTold_31 rfl (lv_at hl 1 rfl) ?_
            obtain ⟨g20, hm⟩ := gb_some hm
            refine ld_61 hx hb hK hI g20 (v := σ 61 (ix p0)) rfl dX12_isTold_32 ?_
            refine lv_icmp_ge (tgt := 40) hx hb dX12_isTold_33 (by decide) (fun c21 => ?_) (fun c21 => ?_)
            · have hm := (if_pos c21).symm.trans hm
              refine lv_iconst (v := 0) hx hb dX12_isTold_40 (by decide) ?_
              exact hR _ _ _ _ _ _ hm hI (by decide) dX12_isTold_41
            · have hm := (if_neg c21).symm.trans hm
              refine lv_iconst (v := 1) hx hb dX12_isTold_36 (by decide) ?_
              refine lv_goto (tgt := 41) hx hb dX12_isTold_37 (by decide) ?_
              exact hR _ _ _ _ _ _ hm hI (by decide) dX12_isTold_41
    · have hm := (if_neg c2).symm.trans hm
      refine lv_iconst (v := 0) hx hb dX12_isTold_10 (by decide) ?_
      exact hR _ _ _ _ _ _ hm hI (by decide) dX12_isTold_11
def f_X12_comes (N n : Nat) (σ : Sg) (p0 : Int32) (p1 : Int32) (p2 : Int32) : Option (Int32 × Sg) := gb p0 12 (gb ((σ 62 (ix p0)) + p1) 300 (if (σ 66 (ix ((σ 62 (ix p0)) + p1))) < 0 then (gb ((σ 62 (ix p0)) + p1) 300 (some (0, sg σ 66 (ix ((σ 62 (ix p0)) + p1)) p2))) else (gb ((σ 62 (ix p0)) + p1) 300 (if (σ 66 (ix ((σ 62 (ix p0)) + p1))) = p2 then (some (0, σ)) else (some (5, σ))))))
set_option maxHeartbeats 4000000 in
set_option maxRecDepth 100000 in
theorem c_X12_comes {l : Launch} {g : GG} {q : Nat} (N n : Nat) {σ : Sg} {p0 : Int32} {p1 : Int32} {p2 : Int32} {r : Int32} {σ' : Sg} (hm : f_X12_comes N n σ p0 p1 p2 = some (r, σ')) : CTi l yX12_comes cX12_comes 5 (some .int) 0 0 g q n [.ref (ga g 59), .int p0, .int p1, .int p2] σ r σ' := by
  refine e_i (r := r) (by decide) (Nat.le_of_ble_eq_true rfl) ?_
  intro p e s m args below meth c A Q ls hC hl hI
  obtain ⟨hX, hK, hN, hZ, hA, hR⟩ := id hC
  have hx : p.tables.exec = Jvm.exec := hX.1
  have hb : c.code = cX12_comes := hX.2.1
  have hml : c.maxLocals = 5 := hX.2.2.1
  have hown : s.vm.findClass RX12 = some m.cls := hX.2.2.2.1
  have ht : ∀ w ∈ BIG, w.before args s = true := hX.2.2.2.2
  have hl : lv_has ls 5 [(0, .ref (ga g 59)), (1, .int p0), (2, .int p1), (3, .int p2)] := hl
  unfold f_X12_comes at hm
  refine lv_aload_n hx hb dX12_comes_0 rfl (lv_at hl 0 rfl) ?_
  refine gf_59_4 hx hb ht hK hI mw_757 (fun _ h9 => h9) hown dX12_comes_1 ?_
  refine lv_iload_n hx hb dX12_comes_4 rfl (lv_at hl 1 rfl) ?_
  obtain ⟨g1, hm⟩ := gb_some hm
  refine ld_62 hx hb hK hI g1 (v := σ 62 (ix p0)) rfl dX12_comes_5 ?_
  refine lv_iload_n hx hb dX12_comes_6 rfl (lv_at hl 2 rfl) ?_
  refine lv_iadd hx hb dX12_comes_7 ?_
  refine lv_istore (lv' := [(4, .int ((σ 62 (ix p0)) + p1)), (0, .ref (ga g 59)), (1, .int p0), (2, .int p1), (3, .int p2)]) hx hb dX12_comes_8 hl (by decide) rfl (fun ls hl => ?_)
  refine lv_aload_n hx hb dX12_comes_10 rfl (lv_at hl 1 rfl) ?_
  refine gf_59_9 hx hb ht hK hI mw_761 (fun _ h9 => h9) hown dX12_comes_11 ?_
  refine lv_iload hx hb dX12_comes_14 (lv_at hl 0 rfl) ?_
  obtain ⟨g2, hm⟩ := gb_some hm
  refine ld_66 hx hb hK hI g2 (v := σ 66 (ix ((σ 62 (ix p0)) + p1))) rfl dX12_comes_16 ?_
  refine lv_if_lt (tgt := 37) hx hb dX12_comes_17 (by decide) (fun c3 => ?_) (fun c3 => ?_)
  · have hm := (if_pos c3).symm.trans hm
    refine lv_aload_n hx hb dX12_comes_37 rfl (lv_at hl 1 rfl) ?_
    refine gf_59_9 hx hb ht hK hI mw_761 (fun _ h9 => h9) hown dX12_comes_38 ?_
    refine lv_iload hx hb dX12_comes_41 (lv_at hl 0 rfl) ?_
    refine lv_iload_n hx hb dX12_comes_43 rfl (lv_at hl 4 rfl) ?_
    obtain ⟨g4, hm⟩ := gb_some hm
    refine sv_66 hx hb hK hI g4 dX12_comes_44 (fun H locs hI => ?_)
    refine lv_iconst (v := 0) hx hb dX12_comes_45 (by decide) ?_
    exact hR _ _ _ _ _ _ hm hI dX12_comes_46
  · have hm := (if_neg c3).symm.trans hm
    refine lv_aload_n hx hb dX12_comes_20 rfl (lv_at hl 1 rfl) ?_
    refine gf_59_9 hx hb ht hK hI mw_761 (fun _ h9 => h9) hown dX12_comes_21 ?_
    refine lv_iload hx hb dX12_comes_24 (lv_at hl 0 rfl) ?_
    obtain ⟨g5, hm⟩ := gb_some hm
    refine ld_66 hx hb hK hI g5 (v := σ 66 (ix ((σ 62 (ix p0)) + p1))) rfl dX12_comes_26 ?_
    refine lv_iload_n hx hb dX12_comes_27 rfl (lv_at hl 4 rfl) ?_
    refine lv_icmp_ne (tgt := 35) hx hb dX12_comes_28 (by decide) (fun c6 => ?_) (fun c6 => ?_)
    · have hm := (if_neg c6).symm.trans hm
      refine lv_iconst (v := 5) hx hb dX12_comes_35 (by decide) ?_
      exact hR _ _ _ _ _ _ hm hI dX12_comes_36
    · have hm := (if_pos c6).symm.trans hm
      refine lv_iconst (v := 0) hx hb dX12_comes_31 (by decide) ?_
      refine lv_goto (tgt := 36) hx hb dX12_comes_32 (by decide) ?_
      exact hR _ _ _ _ _ _ hm hI dX12_comes_36
def f_X12_looksAt (N n : Nat) (σ : Sg) (p0 : Int32) (p1 : Int32) : Option (Int32 × Sg) := gb p0 12 (gb ((σ 62 (ix p0)) + p1) 300 (gb p0 12 (gb ((σ 62 (ix p0)) + p1) 300 (gb p0 12 (gb ((σ 62 (ix p0)) + p1) 300 (bd (f_X12_isTold N n σ p0 (σ 64 (ix ((σ 62 (ix p0)) + p1))) (σ 65 (ix ((σ 62 (ix p0)) + p1)))) (fun r7 σ8 => if r7 = 0 then (some (1, σ8)) else (bd (f_X12_takes N n σ8 (σ 64 (ix ((σ 62 (ix p0)) + p1))) (σ 65 (ix ((σ 62 (ix p0)) + p1)))) (fun r11 σ12 => if r11 ≤ (σ 66 (ix ((σ 62 (ix p0)) + p1))) then (bd (f_X12_behind N n σ12 (σ 64 (ix ((σ 62 (ix p0)) + p1))) (σ 65 (ix ((σ 62 (ix p0)) + p1))) (σ 66 (ix ((σ 62 (ix p0)) + p1)))) (fun r15 σ16 => if r15 ≤ 12 then (if (σ 64 (ix ((σ 62 (ix p0)) + p1))) = 12 then (bd (f_X12_comes N n σ16 p0 (σ 65 (ix ((σ 62 (ix p0)) + p1))) r15) (fun r20 σ21 => some (r20, σ21))) else (if (σ 64 (ix ((σ 62 (ix p0)) + p1))) = 15 then (if (σ 64 (ix ((σ 62 (ix p0)) + p1))) = 13 then (bd (f_X12_comes N n σ16 p0 (σ 65 (ix ((σ 62 (ix p0)) + p1))) r15) (fun r25 σ26 => some (r25, σ26))) else (some (0, σ16))) else (gb p0 12 (if (p1 + 1) = (σ16 63 (ix p0)) then (some (4, σ16)) else (bd (f_X12_comes N n σ16 p0 (p1 + 1) r15) (fun r30 σ31 => if r30 = 0 then (if (σ 64 (ix ((σ 62 (ix p0)) + p1))) = 13 then (bd (f_X12_comes N n σ31 p0 (σ 65 (ix ((σ 62 (ix p0)) + p1))) r15) (fun r35 σ36 => some (r35, σ36))) else (some (r30, σ31))) else (some (r30, σ31)))))))) else (some (3, σ16)))) else (some (2, σ12)))))))))))
set_option maxHeartbeats 4000000 in
set_option maxRecDepth 100000 in
theorem c_X12_looksAt {l : Launch} {g : GG} {q : Nat} (N n : Nat) {σ : Sg} {p0 : Int32} {p1 : Int32} {r : Int32} {σ' : Sg} (hm : f_X12_looksAt N n σ p0 p1 = some (r, σ')) : CTi l yX12_looksAt cX12_looksAt 8 (some .int) 2 46 g q n [.ref (ga g 59), .int p0, .int p1] σ r σ' := by
  refine e_i (r := r) (by decide) (Nat.le_of_ble_eq_true rfl) ?_
  intro p e s m args below meth c A Q ls hC hl hI
  obtain ⟨hX, hK, hN, hZ, hA, hR⟩ := id hC
  have hx : p.tables.exec = Jvm.exec := hX.1
  have hb : c.code = cX12_looksAt := hX.2.1
  have hml : c.maxLocals = 8 := hX.2.2.1
  have hown : s.vm.findClass RX12 = some m.cls := hX.2.2.2.1
  have ht : ∀ w ∈ BIG, w.before args s = true := hX.2.2.2.2
  have hl : lv_has ls 8 [(0, .ref (ga g 59)), (1, .int p0), (2, .int p1)] := hl
  unfold f_X12_looksAt at hm
  refine lv_aload_n hx hb dX12_looksAt_0 rfl (lv_at hl 0 rfl) ?_
  refine gf_59_7 hx hb ht hK hI mw_759 (fun _ h9 => h9) hown dX12_looksAt_1 ?_
  refine lv_aload_n hx hb dX12_looksAt_4 rfl (lv_at hl 0 rfl) ?_
  refine gf_59_4 hx hb ht hK hI mw_757 (fun _ h9 => h9) hown dX12_looksAt_5 ?_
  refine lv_iload_n hx hb dX12_looksAt_8 rfl (lv_at hl 1 rfl) ?_
  obtain ⟨g1, hm⟩ := gb_some hm
  refine ld_62 hx hb hK hI g1 (v := σ 62 (ix p0)) rfl dX12_looksAt_9 ?_
  refine lv_iload_n hx hb dX12_looksAt_10 rfl (lv_at hl 2 rfl) ?_
  refine lv_iadd hx hb dX12_looksAt_11 ?_
  obtain ⟨g2, hm⟩ := gb_some hm
  refine ld_64 hx hb hK hI g2 (v := σ 64 (ix ((σ 62 (ix p0)) + p1))) rfl dX12_looksAt_12 ?_
  refine lv_istore_n (lv' := [(3, .int (σ 64 (ix ((σ 62 (ix p0)) + p1)))), (0, .ref (ga g 59)), (1, .int p0), (2, .int p1)]) hx hb dX12_looksAt_13 rfl hl (by decide) rfl (fun ls hl => ?_)
  refine lv_aload_n hx hb dX12_looksAt_14 rfl (lv_at hl 1 rfl) ?_
  refine gf_59_8 hx hb ht hK hI mw_760 (fun _ h9 => h9) hown dX12_looksAt_15 ?_
  refine lv_aload_n hx hb dX12_looksAt_18 rfl (lv_at hl 1 rfl) ?_
  refine gf_59_4 hx hb ht hK hI mw_757 (fun _ h9 => h9) hown dX12_looksAt_19 ?_
  refine lv_iload_n hx hb dX12_looksAt_22 rfl (lv_at hl 2 rfl) ?_
  obtain ⟨g3, hm⟩ := gb_some hm
  refine ld_62 hx hb hK hI g3 (v := σ 62 (ix p0)) rfl dX12_looksAt_23 ?_
  refine lv_iload_n hx hb dX12_looksAt_24 rfl (lv_at hl 3 rfl) ?_
  refine lv_iadd hx hb dX12_looksAt_25 ?_
  obtain ⟨g4, hm⟩ := gb_some hm
  refine ld_65 hx hb hK hI g4 (v := σ 65 (ix ((σ 62 (ix p0)) + p1))) rfl dX12_looksAt_26 ?_
  refine lv_istore (lv' := [(4, .int (σ 65 (ix ((σ 62 (ix p0)) + p1)))), (3, .int (σ 64 (ix ((σ 62 (ix p0)) + p1)))), (0, .ref (ga g 59)), (1, .int p0), (2, .int p1)]) hx hb dX12_looksAt_27 hl (by decide) rfl (fun ls hl => ?_)
  refine lv_aload_n hx hb dX12_looksAt_29 rfl (lv_at hl 2 rfl) ?_
  refine gf_59_9 hx hb ht hK hI mw_761 (fun _ h9 => h9) hown dX12_looksAt_30 ?_
  refine lv_aload_n hx hb dX12_looksAt_33 rfl (lv_at hl 2 rfl) ?_
  refine gf_59_4 hx hb ht hK hI mw_757 (fun _ h9 => h9) hown dX12_looksAt_34 ?_
  refine lv_iload_n hx hb dX12_looksAt_37 rfl (lv_at hl 3 rfl) ?_
  obtain ⟨g5, hm⟩ := gb_some hm
  refine ld_62 hx hb hK hI g5 (v := σ 62 (ix p0)) rfl dX12_looksAt_38 ?_
  refine lv_iload_n hx hb dX12_looksAt_39 rfl (lv_at hl 4 rfl) ?_
  refine lv_iadd hx hb dX12_looksAt_40 ?_
  obtain ⟨g6, hm⟩ := gb_some hm
  refine ld_66 hx hb hK hI g6 (v := σ 66 (ix ((σ 62 (ix p0)) + p1))) rfl dX12_looksAt_41 ?_
  refine lv_istore (lv' := [(5, .int (σ 66 (ix ((σ 62 (ix p0)) + p1)))), (4, .int (σ 65 (ix ((σ 62 (ix p0)) + p1)))), (3, .int (σ 64 (ix ((σ 62 (ix p0)) + p1)))), (0, .ref (ga g 59)), (1, .int p0), (2, .int p1)]) hx hb dX12_looksAt_42 hl (by decide) rfl (fun ls hl => ?_)
  refine lv_aload_n hx hb dX12_looksAt_44 rfl (lv_at hl 3 rfl) ?_
  refine lv_iload_n hx hb dX12_looksAt_45 rfl (lv_at hl 4 rfl) ?_
  refine lv_iload_n hx hb dX12_looksAt_46 rfl (lv_at hl 2 rfl) ?_
  refine lv_iload hx hb dX12_looksAt_47 (lv_at hl 1 rfl) ?_
  obtain ⟨r7, σ8, h9, hm⟩ := bd_some hm
  refine k_i hI hA (va_runV (As := [.int p0, .int (σ 64 (ix ((σ 62 (ix p0)) + p1))), .int (σ 65 (ix ((σ 62 (ix p0)) + p1)))]) (rest := []) hX (c_X12_isTold N n h9 _) (cwV 3 ht (in_V mw_864 mw_865 mw_866 mw_861 mw_862) rfl rfl rfl pd_X12_isTold ⟨Nat.le_of_ble_eq_true rfl, Nat.le_of_ble_eq_true rfl⟩) ⟨q_blind, va_recv hK hI.1 (ci := 11) (q0 := 59) rfl rfl, q_to hI hK hN hZ hA⟩ rfl rfl hl.1 rfl (lv_room (Nat.le_of_ble_eq_true rfl)) dX12_looksAt_49 (by decide)) (fun H locs hI => ?_)
  refine lv_if_ne (tgt := 57) hx hb dX12_looksAt_52 (by decide) (fun c10 => ?_) (fun c10 => ?_)
  · have hm := (if_neg c10).symm.trans hm
    refine lv_iload hx hb dX12_looksAt_57 (lv_at hl 0 rfl) ?_
    refine lv_aload_n hx hb dX12_looksAt_59 rfl (lv_at hl 3 rfl) ?_
    refine lv_iload_n hx hb dX12_looksAt_60 rfl (lv_at hl 2 rfl) ?_
    refine lv_iload hx hb dX12_looksAt_61 (lv_at hl 1 rfl) ?_
    obtain ⟨r11, σ12, h13, hm⟩ := bd_some hm
    refine k_i hI hA (va_runV (As := [.int (σ 64 (ix ((σ 62 (ix p0)) + p1))), .int (σ 65 (ix ((σ 62 (ix p0)) + p1)))]) (rest := [.int (σ 66 (ix ((σ 62 (ix p0)) + p1)))]) hX (c_X12_takes N n h13 _) (cwV 2 ht (in_V mw_858 mw_859 mw_860 mw_861 mw_856) rfl rfl rfl pd_X12_takes ⟨Nat.le_of_ble_eq_true rfl, Nat.le_of_ble_eq_true rfl⟩) ⟨q_blind, va_recv hK hI.1 (ci := 11) (q0 := 59) rfl rfl, q_to hI hK hN hZ hA⟩ rfl rfl hl.1 rfl (lv_room (Nat.le_of_ble_eq_true rfl)) dX12_looksAt_63 (by decide)) (fun H locs hI => ?_)
    refine lv_icmp_ge (tgt := 71) hx hb dX12_looksAt_66 (by decide) (fun c14 => ?_) (fun c14 => ?_)
    · have hm := (if_pos c14).symm.trans hm
      refine lv_aload_n hx hb dX12_looksAt_71 rfl (lv_at hl 3 rfl) ?_
      refine lv_iload_n hx hb dX12_looksAt_72 rfl (lv_at hl 2 rfl) ?_
      refine lv_iload hx hb dX12_looksAt_73 (lv_at hl 1 rfl) ?_
      refine lv_iload hx hb dX12_looksAt_75 (lv_at hl 0 rfl) ?_
      obtain ⟨r15, σ16, h17, hm⟩ := bd_some hm
      refine k_i hI hA (va_runV (As := [.int (σ 64 (ix ((σ 62 (ix p0)) + p1))), .int (σ 65 (ix ((σ 62 (ix p0)) + p1))), .int (σ 66 (ix ((σ 62 (ix p0)) + p1)))]) (rest := []) hX (c_X12_behind N n h17 _) (cwV 3 ht (in_V mw_867 mw_868 mw_869 mw_861 mw_857) rfl rfl rfl pd_X12_behind ⟨Nat.le_of_ble_eq_true rfl, Nat.le_of_ble_eq_true rfl⟩) ⟨q_blind, va_recv hK hI.1 (ci := 11) (q0 := 59) rfl rfl, q_to hI hK hN hZ hA⟩ rfl rfl hl.1 rfl (lv_room (Nat.le_of_ble_eq_true rfl)) dX12_looksAt_77 (by decide)) (fun H locs hI => ?_)
      refine lv_istore (lv' := [(6, .int r15), (5, .int (σ 66 (ix ((σ 62 (ix p0)) + p1)))), (4, .int (σ 65 (ix ((σ 62 (ix p0)) + p1)))), (3, .int (σ 64 (ix ((σ 62 (ix p0)) + p1)))), (0, .ref (ga g 59)), (1, .int p0), (2, .int p1)]) hx hb dX12_looksAt_80 hl (by decide) rfl (fun ls hl => ?_)
      refine lv_iload hx hb dX12_looksAt_82 (lv_at hl 0 rfl) ?_
      refine lv_bipush (v := 12) hx hb dX12_looksAt_84 (by decide) ?_
      refine lv_icmp_le (tgt := 91) hx hb dX12_looksAt_86 (by decide) (fun c18 => ?_) (fun c18 => ?_)
      · have hm := (if_pos c18).symm.trans hm
        refine lv_iconst (v := 0) hx hb dX12_looksAt_91 (by decide) ?_
        refine lv_istore (lv' := [(7, .int 0), (6, .int r15), (5, .int (σ 66 (ix ((σ 62 (ix p0)) + p1)))), (4, .int (σ 65 (ix ((σ 62 (ix p0)) + p1)))), (3, .int (σ 64 (ix ((σ 62 (ix p0)) + p1)))), (0, .ref (ga g 59)), (1, .int p0), (2, .int p1)]) hx hb dX12_looksAt_92 hl (by decide) rfl (fun ls hl => ?_)
        refine lv_iload_n hx hb dX12_looksAt_94 rfl (lv_at hl 4 rfl) ?_
        refine lv_bipush (v := 12) hx hb dX12_looksAt_95 (by decide) ?_
        refine lv_icmp_eq (tgt := 134) hx hb dX12_looksAt_97 (by decide) (fun c19 => ?_) (fun c19 => ?_)
        · have hm := (if_pos c19).symm.trans hm
          refine lv_iload hx hb dX12_looksAt_134 (lv_at hl 0 rfl) ?_
          refine lv_if_ne (tgt := 162) hx hb dX12_looksAt_136 (by decide) (fun h => absurd h (by decide)) (fun _ => ?_)
          refine lv_iload_n hx hb dX12_looksAt_139 rfl (lv_at hl 4 rfl) ?_
          refine lv_bipush (v := 12) hx hb dX12_looksAt_140 (by decide) ?_
          refine lv_icmp_eq (tgt := 151) hx hb dX12_looksAt_142 (by decide) (fun _ => ?_) (fun h => absurd c19 h)
          refine lv_aload_n hx hb dX12_looksAt_151 rfl (lv_at hl 5 rfl) ?_
          refine lv_iload_n hx hb dX12_looksAt_152 rfl (lv_at hl 6 rfl) ?_
          refine lv_iload hx hb dX12_looksAt_153 (lv_at hl 3 rfl) ?_
          refine lv_iload hx hb dX12_looksAt_155 (lv_at hl 1 rfl) ?_
          obtain ⟨r20, σ21, h22, hm⟩ := bd_some hm
          refine k_i hI hA (va_runV (As := [.int p0, .int (σ 65 (ix ((σ 62 (ix p0)) + p1))), .int r15]) (rest := []) hX (c_X12_comes N n h22 _) (cwV 3 ht (in_V mw_870 mw_871 mw_872 mw_861 mw_863) rfl rfl rfl pd_X12_comes ⟨Nat.le_of_ble_eq_true rfl, Nat.le_of_ble_eq_true rfl⟩) ⟨q_blind, va_recv hK hI.1 (ci := 11) (q0 := 59) rfl rfl, q_to hI hK hN hZ hA⟩ rfl rfl hl.1 rfl (lv_room (Nat.le_of_ble_eq_true rfl)) dX12_looksAt_157 (by decide)) (fun H locs hI => ?_)
          refine lv_istore (lv' := [(7, .int r20), (6, .int r15), (5, .int (σ 66 (ix ((σ 62 (ix p0)) + p1)))), (4, .int (σ 65 (ix ((σ 62 (ix p0)) + p1)))), (3, .int (σ 64 (ix ((σ 62 (ix p0)) + p1)))), (0, .ref (ga g 59)), (1, .int p0), (2, .int p1)]) hx hb dX12_looksAt_160 hl (by decide) rfl (fun ls hl => ?_)
          refine lv_iload hx hb dX12_looksAt_162 (lv_at hl 0 rfl) ?_
          exact hR _ _ _ _ _ _ hm hI dX12_looksAt_164
        · have hm := (if_neg c19).symm.trans hm
          refine lv_iload_n hx hb dX12_looksAt_100 rfl (lv_at hl 4 rfl) ?_
          refine lv_bipush (v := 15) hx hb dX12_looksAt_101 (by decide) ?_
          refine lv_icmp_eq (tgt := 134) hx hb dX12_looksAt_103 (by decide) (fun c23 => ?_) (fun c23 => ?_)
          · have hm := (if_pos c23).symm.trans hm
            refine lv_iload hx hb dX12_looksAt_134 (lv_at hl 0 rfl) ?_
            refine lv_if_ne (tgt := 162) hx hb dX12_looksAt_136 (by decide) (fun h => absurd h (by decide)) (fun _ => ?_)
            refine lv_iload_n hx hb dX12_looksAt_139 rfl (lv_at hl 4 rfl) ?_
            refine lv_bipush (v := 12) hx hb dX12_looksAt_140 (by decide) ?_
            refine lv_icmp_eq (tgt := 151) hx hb dX12_looksAt_142 (by decide) (fun h => absurd h c19) (fun _ => ?_)
            refine lv_iload_n hx hb dX12_looksAt_145 rfl (lv_at hl 4 rfl) ?_
            refine lv_bipush (v := 13) hx hb dX12_looksAt_146 (by decide) ?_
            refine lv_icmp_ne (tgt := 162) hx hb dX12_looksAt_148 (by decide) (fun c24 => ?_) (fun c24 => ?_)
            · have hm := (if_neg c24).symm.trans hm
              refine lv_iload hx hb dX12_looksAt_162 (lv_at hl 0 rfl) ?_
              exact hR _ _ _ _ _ _ hm hI dX12_looksAt_164
            · have hm := (if_pos c24).symm.trans hm
              refine lv_aload_n hx hb dX12_looksAt_151 rfl (lv_at hl 5 rfl) ?_
              refine lv_iload_n hx hb dX12_looksAt_152 rfl (lv_at hl 6 rfl) ?_
              refine lv_iload hx hb dX12_looksAt_153 (lv_at hl 3 rfl) ?_
              refine lv_iload hx hb dX12_looksAt_155 (lv_at hl 1 rfl) ?_
              obtain ⟨r25, σ26, h27, hm⟩ := bd_some hm
              refine k_i hI hA (va_runV (As := [.int p0, .int (σ 65 (ix ((σ 62 (ix p0)) + p1))), .int r15]) (rest := []) hX (c_X12_comes N n h27 _) (cwV 3 ht (in_V mw_870 mw_871 mw_872 mw_861 mw_863) rfl rfl rfl pd_X12_comes ⟨Nat.le_of_ble_eq_true rfl, Nat.le_of_ble_eq_true rfl⟩) ⟨q_blind, va_recv hK hI.1 (ci := 11) (q0 := 59) rfl rfl, q_to hI hK hN hZ hA⟩ rfl rfl hl.1 rfl (lv_room (Nat.le_of_ble_eq_true rfl)) dX12_looksAt_157 (by decide)) (fun H locs hI => ?_)
              refine lv_istore (lv' := [(7, .int r25), (6, .int r15), (5, .int (σ 66 (ix ((σ 62 (ix p0)) + p1)))), (4, .int (σ 65 (ix ((σ 62 (ix p0)) + p1)))), (3, .int (σ 64 (ix ((σ 62 (ix p0)) + p1)))), (0, .ref (ga g 59)), (1, .int p0), (2, .int p1)]) hx hb dX12_looksAt_160 hl (by decide) rfl (fun ls hl => ?_)
              refine lv_iload hx hb dX12_looksAt_162 (lv_at hl 0 rfl) ?_
              exact hR _ _ _ _ _ _ hm hI dX12_looksAt_164
          · have hm := (if_neg c23).symm.trans hm
            refine lv_iload_n hx hb dX12_looksAt_106 rfl (lv_at hl 7 rfl) ?_
            refine lv_iconst (v := 1) hx hb dX12_looksAt_107 (by decide) ?_
            refine lv_iadd hx hb dX12_looksAt_108 ?_
            refine lv_aload_n hx hb dX12_looksAt_109 rfl (lv_at hl 5 rfl) ?_
            refine gf_59_5 hx hb ht hK hI mw_758 (fun _ h9 => h9) hown dX12_looksAt_110 ?_
            refine lv_iload_n hx hb dX12_looksAt_113 rfl (lv_at hl 6 rfl) ?_
            obtain ⟨g28, hm⟩ := gb_some hm
            refine ld_63 hx hb hK hI g28 (v := σ16 63 (ix p0)) rfl dX12_looksAt_114 ?_
            refine lv_icmp_ne (tgt := 122) hx hb dX12_looksAt_115 (by decide) (fun c29 => ?_) (fun c29 => ?_)
            · have hm := (if_neg c29).symm.trans hm
              refine lv_aload_n hx hb dX12_looksAt_122 rfl (lv_at hl 5 rfl) ?_
              refine lv_iload_n hx hb dX12_looksAt_123 rfl (lv_at hl 6 rfl) ?_
              refine lv_iload_n hx hb dX12_looksAt_124 rfl (lv_at hl 7 rfl) ?_
              refine lv_iconst (v := 1) hx hb dX12_looksAt_125 (by decide) ?_
              refine lv_iadd hx hb dX12_looksAt_126 ?_
              refine lv_iload hx hb dX12_looksAt_127 (lv_at hl 1 rfl) ?_
              obtain ⟨r30, σ31, h32, hm⟩ := bd_some hm
              refine k_i hI hA (va_runV (As := [.int p0, .int (p1 + 1), .int r15]) (rest := []) hX (c_X12_comes N n h32 _) (cwV 3 ht (in_V mw_870 mw_871 mw_872 mw_861 mw_863) rfl rfl rfl pd_X12_comes ⟨Nat.le_of_ble_eq_true rfl, Nat.le_of_ble_eq_true rfl⟩) ⟨q_blind, va_recv hK hI.1 (ci := 11) (q0 := 59) rfl rfl, q_to hI hK hN hZ hA⟩ rfl rfl hl.1 rfl (lv_room (Nat.le_of_ble_eq_true rfl)) dX12_looksAt_129 (by decide)) (fun H locs hI => ?_)
              refine lv_istore (lv' := [(7, .int r30), (6, .int r15), (5, .int (σ 66 (ix ((σ 62 (ix p0)) + p1)))), (4, .int (σ 65 (ix ((σ 62 (ix p0)) + p1)))), (3, .int (σ 64 (ix ((σ 62 (ix p0)) + p1)))), (0, .ref (ga g 59)), (1, .int p0), (2, .int p1)]) hx hb dX12_looksAt_132 hl (by decide) rfl (fun ls hl => ?_)
              refine lv_iload hx hb dX12_looksAt_134 (lv_at hl 0 rfl) ?_
              refine lv_if_ne (tgt := 162) hx hb dX12_looksAt_136 (by decide) (fun c33 => ?_) (fun c33 => ?_)
              · have hm := (if_neg c33).symm.trans hm
                refine lv_iload hx hb dX12_looksAt_162 (lv_at hl 0 rfl) ?_
                exact hR _ _ _ _ _ _ hm hI dX12_looksAt_164
              · have hm := (if_pos c33).symm.trans hm
                refine lv_iload_n hx hb dX12_looksAt_139 rfl (lv_at hl 4 rfl) ?_
                refine lv_bipush (v := 12) hx hb dX12_looksAt_140 (by decide) ?_
                refine lv_icmp_eq (tgt := 151) hx hb dX12_looksAt_142 (by decide) (fun h => absurd h c19) (fun _ => ?_)
                refine lv_iload_n hx hb dX12_looksAt_145 rfl (lv_at hl 4 rfl) ?_
                refine lv_bipush (v := 13) hx hb dX12_looksAt_146 (by decide) ?_
                refine lv_icmp_ne (tgt := 162) hx hb dX12_looksAt_148 (by decide) (fun c34 => ?_) (fun c34 => ?_)
                · have hm := (if_neg c34).symm.trans hm
                  refine lv_iload hx hb dX12_looksAt_162 (lv_at hl 0 rfl) ?_
                  exact hR _ _ _ _ _ _ hm hI dX12_looksAt_164
                · have hm := (if_pos c34).symm.trans hm
                  refine lv_aload_n hx hb dX12_looksAt_151 rfl (lv_at hl 5 rfl) ?_
                  refine lv_iload_n hx hb dX12_looksAt_152 rfl (lv_at hl 6 rfl) ?_
                  refine lv_iload hx hb dX12_looksAt_153 (lv_at hl 3 rfl) ?_
                  refine lv_iload hx hb dX12_looksAt_155 (lv_at hl 1 rfl) ?_
                  obtain ⟨r35, σ36, h37, hm⟩ := bd_some hm
                  refine k_i hI hA (va_runV (As := [.int p0, .int (σ 65 (ix ((σ 62 (ix p0)) + p1))), .int r15]) (rest := []) hX (c_X12_comes N n h37 _) (cwV 3 ht (in_V mw_870 mw_871 mw_872 mw_861 mw_863) rfl rfl rfl pd_X12_comes ⟨Nat.le_of_ble_eq_true rfl, Nat.le_of_ble_eq_true rfl⟩) ⟨q_blind, va_recv hK hI.1 (ci := 11) (q0 := 59) rfl rfl, q_to hI hK hN hZ hA⟩ rfl rfl hl.1 rfl (lv_room (Nat.le_of_ble_eq_true rfl)) dX12_looksAt_157 (by decide)) (fun H locs hI => ?_)
                  refine lv_istore (lv' := [(7, .int r35), (6, .int r15), (5, .int (σ 66 (ix ((σ 62 (ix p0)) + p1)))), (4, .int (σ 65 (ix ((σ 62 (ix p0)) + p1)))), (3, .int (σ 64 (ix ((σ 62 (ix p0)) + p1)))), (0, .ref (ga g 59)), (1, .int p0), (2, .int p1)]) hx hb dX12_looksAt_160 hl (by decide) rfl (fun ls hl => ?_)
                  refine lv_iload hx hb dX12_looksAt_162 (lv_at hl 0 rfl) ?_
                  exact hR _ _ _ _ _ _ hm hI dX12_looksAt_164
            · have hm := (if_pos c29).symm.trans hm
              refine lv_iconst (v := 4) hx hb dX12_looksAt_118 (by decide) ?_
              refine lv_goto (tgt := 132) hx hb dX12_looksAt_119 (by decide) ?_
              refine lv_istore (lv' := [(7, .int 4), (6, .int r15), (5, .int (σ 66 (ix ((σ 62 (ix p0)) + p1)))), (4, .int (σ 65 (ix ((σ 62 (ix p0)) + p1)))), (3, .int (σ 64 (ix ((σ 62 (ix p0)) + p1)))), (0, .ref (ga g 59)), (1, .int p0), (2, .int p1)]) hx hb dX12_looksAt_132 hl (by decide) rfl (fun ls hl => ?_)
              refine lv_iload hx hb dX12_looksAt_134 (lv_at hl 0 rfl) ?_
              refine lv_if_ne (tgt := 162) hx hb dX12_looksAt_136 (by decide) (fun _ => ?_) (fun h => absurd h (by decide))
              refine lv_iload hx hb dX12_looksAt_162 (lv_at hl 0 rfl) ?_
              exact hR _ _ _ _ _ _ hm hI dX12_looksAt_164
      · have hm := (if_neg c18).symm.trans hm
        refine lv_iconst (v := 3) hx hb dX12_looksAt_89 (by decide) ?_
        exact hR _ _ _ _ _ _ hm hI dX12_looksAt_90
    · have hm := (if_neg c14).symm.trans hm
      refine lv_iconst (v := 2) hx hb dX12_looksAt_69 (by decide) ?_
      exact hR _ _ _ _ _ _ hm hI dX12_looksAt_70
  · have hm := (if_pos c10).symm.trans hm
    refine lv_iconst (v := 1) hx hb dX12_looksAt_55 (by decide) ?_
    exact hR _ _ _ _ _ _ hm hI dX12_looksAt_56
def lb_X12_checks_9 (N n : Nat) (u1 : Int32) (u2 : Int32) (K43 : (Sg → Int32 → Option (Int32 × Sg))) (rec : (Sg → Int32 → Option (Int32 × Sg))) (σ : Sg) (v3 : Int32) : Option (Int32 × Sg) := gb u1 12 (if (σ 63 (ix u1)) ≤ v3 then (K43 σ v3) else (gb (u2 + v3) 300 (gb (u2 + v3) 300 (rec (sg (sg σ 66 (ix (u2 + v3)) (-1)) 67 (ix (u2 + v3)) 0) (v3 + 1)))))
def lf_X12_checks_9 (N n : Nat) (u1 : Int32) (u2 : Int32) (K43 : (Sg → Int32 → Option (Int32 × Sg))) : Nat → (Sg → Int32 → Option (Int32 × Sg))
  | 0 => fun _ _ => none
  | k + 1 => lb_X12_checks_9 N n u1 u2 K43 (lf_X12_checks_9 N n u1 u2 K43 k)
def lb_X12_checks_52 (N n : Nat) (u1 : Int32) (u2 : Int32) (K131 : (Sg → Int32 → Option (Int32 × Sg))) (rec : (Sg → Int32 → Option (Int32 × Sg))) (σ : Sg) (v3 : Int32) : Option (Int32 × Sg) := gb u1 12 (if (σ 63 (ix u1)) ≤ v3 then (K131 σ v3) else (gb (u2 + v3) 300 (if (σ 66 (ix (u2 + v3))) < 0 then (rec σ (v3 + 1)) else (gb (u2 + v3) 300 (if (σ 67 (ix (u2 + v3))) = 0 then (gb (u2 + v3) 300 (bd (f_X12_looksAt N n (sg σ 67 (ix (u2 + v3)) 1) u1 v3) (fun r16 σ17 => if r16 ≤ 0 then (rec σ17 0) else (some ((r16 + (8 * u1)) + (128 * v3), σ17))))) else (rec σ (v3 + 1)))))))
def lf_X12_checks_52 (N n : Nat) (u1 : Int32) (u2 : Int32) (K131 : (Sg → Int32 → Option (Int32 × Sg))) : Nat → (Sg → Int32 → Option (Int32 × Sg))
  | 0 => fun _ _ => none
  | k + 1 => lb_X12_checks_52 N n u1 u2 K131 (lf_X12_checks_52 N n u1 u2 K131 k)
def f_X12_checks (N n : Nat) (σ : Sg) (p0 : Int32) : Option (Int32 × Sg) := gb p0 12 (lf_X12_checks_9 N n p0 (σ 62 (ix p0)) (fun σ6 w7 => gb (σ 62 (ix p0)) 300 (lf_X12_checks_52 N n p0 (σ 62 (ix p0)) (fun σ20 w21 => some (0, σ20)) N (sg σ6 66 (ix (σ 62 (ix p0))) 0) 0)) N σ 0)
set_option maxHeartbeats 4000000 in
set_option maxRecDepth 100000 in
theorem lp_X12_checks_9 {p : Program} {l : Launch} {e : Env} {s : State} {m : MethodId} {args : Array Value} {below : List Frame} {meth : Method} {c : Code} {Q : State → Prop} {A : Nat → Prop} {g : GG} {q N n : Nat} {out : Int32 × Sg} {u1 : Int32} {u2 : Int32} {K43 : (Sg → Int32 → Option (Int32 × Sg))}
    (hC : CXi p l e (qR 3 73) s m args below meth c cX12_checks 5 RX12 g q n A Q (some out)) :
    ∀ (k : Nat) (σ : Sg) (v3 : Int32) (H : Heap) (locs : List Loc) (ls : Array Slot), lf_X12_checks_9 N n u1 u2 K43 k σ v3 = some out → wI g q n σ A s.heap H locs → lv_has ls 5 [(0, .ref (ga g 59)), (1, .int u1), (2, .int u2), (3, .int v3)] → (∀ (σ : Sg) (v3 : Int32) (H : Heap) (locs : List Loc) (ls : Array Slot), K43 σ v3 = some out → wI g q n σ A s.heap H locs → lv_has ls 5 [(0, .ref (ga g 59)), (1, .int u1), (2, .int u2)] → W p l e (qR 3 73) s m args below meth c H locs 0 0 Q (F0 m 43 ls [])) → W p l e (qR 3 73) s m args below meth c H locs 0 0 Q (F0 m 9 ls []) := by
  obtain ⟨hX, hK, hN, hZ, hA, hR⟩ := id hC
  have hx : p.tables.exec = Jvm.exec := hX.1
  have hb : c.code = cX12_checks := hX.2.1
  have hml : c.maxLocals = 5 := hX.2.2.1
  have hown : s.vm.findClass RX12 = some m.cls := hX.2.2.2.1
  have ht : ∀ w ∈ BIG, w.before args s = true := hX.2.2.2.2
  intro k
  induction k with
  | zero =>
    intro σ v3 H locs ls hm
    have hm : none = some out := hm
    exact nomatch hm
  | succ k ih =>
    intro σ v3 H locs ls hm hI hl hx43
    have hm : lb_X12_checks_9 N n u1 u2 K43 (lf_X12_checks_9 N n u1 u2 K43 k) σ v3 = some out := hm
    unfold lb_X12_checks_9 at hm
    refine lv_iload_n hx hb dX12_checks_9 rfl (lv_at hl 3 rfl) ?_
    refine lv_aload_n hx hb dX12_checks_10 rfl (lv_at hl 0 rfl) ?_
    refine gf_59_5 hx hb ht hK hI mw_758 (fun _ h9 => h9) hown dX12_checks_11 ?_
    refine lv_iload_n hx hb dX12_checks_14 rfl (lv_at hl 1 rfl) ?_
    obtain ⟨g2, hm⟩ := gb_some hm
    refine ld_63 hx hb hK hI g2 (v := σ 63 (ix u1)) rfl dX12_checks_15 ?_
    refine lv_icmp_ge (tgt := 43) hx hb dX12_checks_16 (by decide) (fun c3 => ?_) (fun c3 => ?_)
    · have hm := (if_pos c3).symm.trans hm
      exact hx43 σ v3 _ _ _ hm hI (lv_sub hl [0, 1, 2] rfl)
    · have hm := (if_neg c3).symm.trans hm
      refine lv_aload_n hx hb dX12_checks_19 rfl (lv_at hl 0 rfl) ?_
      refine gf_59_9 hx hb ht hK hI mw_761 (fun _ h9 => h9) hown dX12_checks_20 ?_
      refine lv_iload_n hx hb dX12_checks_23 rfl (lv_at hl 2 rfl) ?_
      refine lv_iload_n hx hb dX12_checks_24 rfl (lv_at hl 3 rfl) ?_
      refine lv_iadd hx hb dX12_checks_25 ?_
      refine lv_iconst (v := (-1)) hx hb dX12_checks_26 (by decide) ?_
      obtain ⟨g4, hm⟩ := gb_some hm
      refine sv_66 hx hb hK hI g4 dX12_checks_27 (fun H locs hI => ?_)
      refine lv_aload_n hx hb dX12_checks_28 rfl (lv_at hl 0 rfl) ?_
      refine gf_59_11 hx hb ht hK hI mw_762 (fun _ h9 => h9) hown dX12_checks_29 ?_
      refine lv_iload_n hx hb dX12_checks_32 rfl (lv_at hl 2 rfl) ?_
      refine lv_iload_n hx hb dX12_checks_33 rfl (lv_at hl 3 rfl) ?_
      refine lv_iadd hx hb dX12_checks_34 ?_
      refine lv_iconst (v := 0) hx hb dX12_checks_35 (by decide) ?_
      obtain ⟨g5, hm⟩ := gb_some hm
      refine sv_67 hx hb hK hI g5 (by decide) dX12_checks_36 (fun H locs hI => ?_)
      refine lv_iinc (v := v3 + 1) (lv' := [(3, .int (v3 + 1)), (0, .ref (ga g 59)), (1, .int u1), (2, .int u2)]) hx hb dX12_checks_37 hl (k := 3) rfl (congrArg (fun z => v3 + z) (show Int32.ofInt 1 = 1 by decide)) (by decide) rfl (fun ls hl => ?_)
      refine lv_goto (tgt := 9) hx hb dX12_checks_40 (by decide) ?_
      exact ih (sg (sg σ 66 (ix (u2 + v3)) (-1)) 67 (ix (u2 + v3)) 0) (v3 + 1) _ _ _ hm hI (lv_sub hl [1, 2, 3, 0] rfl) hx43
set_option maxHeartbeats 4000000 in
set_option maxRecDepth 100000 in
theorem lp_X12_checks_52 {p : Program} {l : Launch} {e : Env} {s : State} {m : MethodId} {args : Array Value} {below : List Frame} {meth : Method} {c : Code} {Q : State → Prop} {A : Nat → Prop} {g : GG} {q N n : Nat} {out : Int32 × Sg} {u1 : Int32} {u2 : Int32} {K131 : (Sg → Int32 → Option (Int32 × Sg))}
    (hC : CXi p l e (qR 3 73) s m args below meth c cX12_checks 5 RX12 g q n A Q (some out)) :
    ∀ (k : Nat) (σ : Sg) (v3 : Int32) (H : Heap) (locs : List Loc) (ls : Array Slot), lf_X12_checks_52 N n u1 u2 K131 k σ v3 = some out → wI g q n σ A s.heap H locs → lv_has ls 5 [(0, .ref (ga g 59)), (1, .int u1), (2, .int u2), (3, .int v3)] → (∀ (σ : Sg) (v3 : Int32) (H : Heap) (locs : List Loc) (ls : Array Slot), K131 σ v3 = some out → wI g q n σ A s.heap H locs → lv_has ls 5 [] → W p l e (qR 3 73) s m args below meth c H locs 0 0 Q (F0 m 131 ls [])) → W p l e (qR 3 73) s m args below meth c H locs 0 0 Q (F0 m 52 ls []) := by
  obtain ⟨hX, hK, hN, hZ, hA, hR⟩ := id hC
  have hx : p.tables.exec = Jvm.exec := hX.1
  have hb : c.code = cX12_checks := hX.2.1
  have hml : c.maxLocals = 5 := hX.2.2.1
  have hown : s.vm.findClass RX12 = some m.cls := hX.2.2.2.1
  have ht : ∀ w ∈ BIG, w.before args s = true := hX.2.2.2.2
  intro k
  induction k with
  | zero =>
    intro σ v3 H locs ls hm
    have hm : none = some out := hm
    exact nomatch hm
  | succ k ih =>
    intro σ v3 H locs ls hm hI hl hx131
    have hm : lb_X12_checks_52 N n u1 u2 K131 (lf_X12_checks_52 N n u1 u2 K131 k) σ v3 = some out := hm
    unfold lb_X12_checks_52 at hm
    refine lv_iload_n hx hb dX12_checks_52 rfl (lv_at hl 3 rfl) ?_
    refine lv_aload_n hx hb dX12_checks_53 rfl (lv_at hl 0 rfl) ?_
    refine gf_59_5 hx hb ht hK hI mw_758 (fun _ h9 => h9) hown dX12_checks_54 ?_
    refine lv_iload_n hx hb dX12_checks_57 rfl (lv_at hl 1 rfl) ?_
    obtain ⟨g9, hm⟩ := gb_some hm
    refine ld_63 hx hb hK hI g9 (v := σ 63 (ix u1)) rfl dX12_checks_58 ?_
    refine lv_icmp_ge (tgt := 131) hx hb dX12_checks_59 (by decide) (fun c10 => ?_) (fun c10 => ?_)
    · have hm := (if_pos c10).symm.trans hm
      exact hx131 σ v3 _ _ _ hm hI (lv_sub hl [] rfl)
    · have hm := (if_neg c10).symm.trans hm
      refine lv_aload_n hx hb dX12_checks_62 rfl (lv_at hl 0 rfl) ?_
      refine gf_59_9 hx hb ht hK hI mw_761 (fun _ h9 => h9) hown dX12_checks_63 ?_
      refine lv_iload_n hx hb dX12_checks_66 rfl (lv_at hl 2 rfl) ?_
      refine lv_iload_n hx hb dX12_checks_67 rfl (lv_at hl 3 rfl) ?_
      refine lv_iadd hx hb dX12_checks_68 ?_
      obtain ⟨g11, hm⟩ := gb_some hm
      refine ld_66 hx hb hK hI g11 (v := σ 66 (ix (u2 + v3))) rfl dX12_checks_69 ?_
      refine lv_if_lt (tgt := 84) hx hb dX12_checks_70 (by decide) (fun c12 => ?_) (fun c12 => ?_)
      · have hm := (if_pos c12).symm.trans hm
        refine lv_iinc (v := v3 + 1) (lv' := [(3, .int (v3 + 1)), (0, .ref (ga g 59)), (1, .int u1), (2, .int u2)]) hx hb dX12_checks_84 hl (k := 3) rfl (congrArg (fun z => v3 + z) (show Int32.ofInt 1 = 1 by decide)) (by decide) rfl (fun ls hl => ?_)
        refine lv_goto (tgt := 52) hx hb dX12_checks_87 (by decide) ?_
        exact ih σ (v3 + 1) _ _ _ hm hI (lv_sub hl [1, 2, 3, 0] rfl) hx131
      · have hm := (if_neg c12).symm.trans hm
        refine lv_aload_n hx hb dX12_checks_73 rfl (lv_at hl 0 rfl) ?_
        refine gf_59_11 hx hb ht hK hI mw_762 (fun _ h9 => h9) hown dX12_checks_74 ?_
        refine lv_iload_n hx hb dX12_checks_77 rfl (lv_at hl 2 rfl) ?_
        refine lv_iload_n hx hb dX12_checks_78 rfl (lv_at hl 3 rfl) ?_
        refine lv_iadd hx hb dX12_checks_79 ?_
        obtain ⟨g13, hm⟩ := gb_some hm
        refine ld_67 hx hb hK hI g13 (v := σ 67 (ix (u2 + v3))) rfl dX12_checks_80 ?_
        refine lv_if_eq (tgt := 90) hx hb dX12_checks_81 (by decide) (fun c14 => ?_) (fun c14 => ?_)
        · have hm := (if_pos c14).symm.trans hm
          refine lv_aload_n hx hb dX12_checks_90 rfl (lv_at hl 0 rfl) ?_
          refine gf_59_11 hx hb ht hK hI mw_762 (fun _ h9 => h9) hown dX12_checks_91 ?_
          refine lv_iload_n hx hb dX12_checks_94 rfl (lv_at hl 2 rfl) ?_
          refine lv_iload_n hx hb dX12_checks_95 rfl (lv_at hl 3 rfl) ?_
          refine lv_iadd hx hb dX12_checks_96 ?_
          refine lv_iconst (v := 1) hx hb dX12_checks_97 (by decide) ?_
          obtain ⟨g15, hm⟩ := gb_some hm
          refine sv_67 hx hb hK hI g15 (by decide) dX12_checks_98 (fun H locs hI => ?_)
          refine lv_aload_n hx hb dX12_checks_99 rfl (lv_at hl 0 rfl) ?_
          refine lv_iload_n hx hb dX12_checks_100 rfl (lv_at hl 1 rfl) ?_
          refine lv_iload_n hx hb dX12_checks_101 rfl (lv_at hl 3 rfl) ?_
          obtain ⟨r16, σ17, h18, hm⟩ := bd_some hm
          refine k_i hI hA (va_runV (As := [.int u1, .int v3]) (rest := []) hX (c_X12_looksAt N n h18 _) (cwV 2 ht (in_V mw_874 mw_875 mw_876 mw_861 mw_873) rfl rfl rfl pd_X12_looksAt ⟨Nat.le_of_ble_eq_true rfl, Nat.le_of_ble_eq_true rfl⟩) ⟨q_blind, va_recv hK hI.1 (ci := 11) (q0 := 59) rfl rfl, q_to hI hK hN hZ hA⟩ rfl rfl hl.1 rfl (lv_room (Nat.le_of_ble_eq_true rfl)) dX12_checks_102 (by decide)) (fun H locs hI => ?_)
          refine lv_istore (lv' := [(4, .int r16), (0, .ref (ga g 59)), (1, .int u1), (2, .int u2), (3, .int v3)]) hx hb dX12_checks_105 hl (by decide) rfl (fun ls hl => ?_)
          refine lv_iload hx hb dX12_checks_107 (lv_at hl 0 rfl) ?_
          refine lv_if_le (tgt := 126) hx hb dX12_checks_109 (by decide) (fun c19 => ?_) (fun c19 => ?_)
          · have hm := (if_pos c19).symm.trans hm
            refine lv_iconst (v := 0) hx hb dX12_checks_126 (by decide) ?_
            refine lv_istore_n (lv' := [(3, .int 0), (4, .int r16), (0, .ref (ga g 59)), (1, .int u1), (2, .int u2)]) hx hb dX12_checks_127 rfl hl (by decide) rfl (fun ls hl => ?_)
            refine lv_goto (tgt := 52) hx hb dX12_checks_128 (by decide) ?_
            exact ih σ17 0 _ _ _ hm hI (lv_sub hl [2, 3, 4, 0] rfl) hx131
          · have hm := (if_neg c19).symm.trans hm
            refine lv_iload hx hb dX12_checks_112 (lv_at hl 0 rfl) ?_
            refine lv_bipush (v := 8) hx hb dX12_checks_114 (by decide) ?_
            refine lv_iload_n hx hb dX12_checks_116 rfl (lv_at hl 2 rfl) ?_
            refine lv_imul hx hb dX12_checks_117 ?_
            refine lv_iadd hx hb dX12_checks_118 ?_
            refine lv_sipush (v := 128) hx hb dX12_checks_119 (by decide) ?_
            refine lv_iload_n hx hb dX12_checks_122 rfl (lv_at hl 4 rfl) ?_
            refine lv_imul hx hb dX12_checks_123 ?_
            refine lv_iadd hx hb dX12_checks_124 ?_
            exact hR _ _ _ _ _ _ hm hI dX12_checks_125
        · have hm := (if_neg c14).symm.trans hm
          refine lv_iinc (v := v3 + 1) (lv' := [(3, .int (v3 + 1)), (0, .ref (ga g 59)), (1, .int u1), (2, .int u2)]) hx hb dX12_checks_84 hl (k := 3) rfl (congrArg (fun z => v3 + z) (show Int32.ofInt 1 = 1 by decide)) (by decide) rfl (fun ls hl => ?_)
          refine lv_goto (tgt := 52) hx hb dX12_checks_87 (by decide) ?_
          exact ih σ (v3 + 1) _ _ _ hm hI (lv_sub hl [1, 2, 3, 0] rfl) hx131
set_option maxHeartbeats 4000000 in
set_option maxRecDepth 100000 in
theorem c_X12_checks {l : Launch} {g : GG} {q : Nat} (N n : Nat) {σ : Sg} {p0 : Int32} {r : Int32} {σ' : Sg} (hm : f_X12_checks N n σ p0 = some (r, σ')) : CTi l yX12_checks cX12_checks 5 (some .int) 3 73 g q n [.ref (ga g 59), .int p0] σ r σ' := by
  refine e_i (r := r) (by decide) (Nat.le_of_ble_eq_true rfl) ?_
  intro p e s m args below meth c A Q ls hC hl hI
  obtain ⟨hX, hK, hN, hZ, hA, hR⟩ := id hC
  have hx : p.tables.exec = Jvm.exec := hX.1
  have hb : c.code = cX12_checks := hX.2.1
  have hml : c.maxLocals = 5 := hX.2.2.1
  have hown : s.vm.findClass RX12 = some m.cls := hX.2.2.2.1
  have ht : ∀ w ∈ BIG, w.before args s = true := hX.2.2.2.2
  have hl : lv_has ls 5 [(0, .ref (ga g 59)), (1, .int p0)] := hl
  unfold f_X12_checks at hm
  refine lv_aload_n hx hb dX12_checks_0 rfl (lv_at hl 0 rfl) ?_
  refine gf_59_4 hx hb ht hK hI mw_757 (fun _ h9 => h9) hown dX12_checks_1 ?_
  refine lv_iload_n hx hb dX12_checks_4 rfl (lv_at hl 1 rfl) ?_
  obtain ⟨g1, hm⟩ := gb_some hm
  refine ld_62 hx hb hK hI g1 (v := σ 62 (ix p0)) rfl dX12_checks_5 ?_
  refine lv_istore_n (lv' := [(2, .int (σ 62 (ix p0))), (0, .ref (ga g 59)), (1, .int p0)]) hx hb dX12_checks_6 rfl hl (by decide) rfl (fun ls hl => ?_)
  refine lv_iconst (v := 0) hx hb dX12_checks_7 (by decide) ?_
  refine lv_istore_n (lv' := [(3, .int 0), (2, .int (σ 62 (ix p0))), (0, .ref (ga g 59)), (1, .int p0)]) hx hb dX12_checks_8 rfl hl (by decide) rfl (fun ls hl => ?_)
  refine lp_X12_checks_9 hC N _ _ _ _ _ hm hI (lv_sub hl [2, 3, 1, 0] rfl) ?_
  intro σ6 w7 H locs ls hm hI hl
  refine lv_aload_n hx hb dX12_checks_43 rfl (lv_at hl 0 rfl) ?_
  refine gf_59_9 hx hb ht hK hI mw_761 (fun _ h9 => h9) hown dX12_checks_44 ?_
  refine lv_iload_n hx hb dX12_checks_47 rfl (lv_at hl 2 rfl) ?_
  refine lv_iconst (v := 0) hx hb dX12_checks_48 (by decide) ?_
  obtain ⟨g8, hm⟩ := gb_some hm
  refine sv_66 hx hb hK hI g8 dX12_checks_49 (fun H locs hI => ?_)
  refine lv_iconst (v := 0) hx hb dX12_checks_50 (by decide) ?_
  refine lv_istore_n (lv' := [(3, .int 0), (0, .ref (ga g 59)), (1, .int p0), (2, .int (σ 62 (ix p0)))]) hx hb dX12_checks_51 rfl hl (by decide) rfl (fun ls hl => ?_)
  refine lp_X12_checks_52 hC N _ _ _ _ _ hm hI (lv_sub hl [1, 2, 3, 0] rfl) ?_
  intro σ20 w21 H locs ls hm hI hl
  refine lv_iconst (v := 0) hx hb dX12_checks_131 (by decide) ?_
  exact hR _ _ _ _ _ _ hm hI dX12_checks_132
def lb_X12_check_26 (N n : Nat)  (K57 : (Sg → Int32 → Option (Int32 × Sg))) (rec : (Sg → Int32 → Option (Int32 × Sg))) (σ : Sg) (v1 : Int32) : Option (Int32 × Sg) := if (σ 59 1) ≤ v1 then (K57 σ v1) else (gb v1 12 (if (σ 63 (ix v1)) = 0 then (some (6 + (8 * v1), σ)) else (rec σ (v1 + 1))))
def lf_X12_check_26 (N n : Nat)  (K57 : (Sg → Int32 → Option (Int32 × Sg))) : Nat → (Sg → Int32 → Option (Int32 × Sg))
  | 0 => fun _ _ => none
  | k + 1 => lb_X12_check_26 N n  K57 (lf_X12_check_26 N n  K57 k)
def lb_X12_check_59 (N n : Nat)  (K85 : (Sg → Int32 → Option (Int32 × Sg))) (rec : (Sg → Int32 → Option (Int32 × Sg))) (σ : Sg) (v1 : Int32) : Option (Int32 × Sg) := if (σ 59 1) ≤ v1 then (K85 σ v1) else (bd (f_X12_checks N n σ v1) (fun r9 σ10 => if r9 ≤ 0 then (rec σ10 (v1 + 1)) else (some (r9, σ10))))
def lf_X12_check_59 (N n : Nat)  (K85 : (Sg → Int32 → Option (Int32 × Sg))) : Nat → (Sg → Int32 → Option (Int32 × Sg))
  | 0 => fun _ _ => none
  | k + 1 => lb_X12_check_59 N n  K85 (lf_X12_check_59 N n  K85 k)
def f_X12_check (N n : Nat) (σ : Sg)  : Option (Int32 × Sg) := if (σ 59 10) = 0 then (if (σ 59 1) = 0 then (some (7, sg σ 59 0 0)) else (lf_X12_check_26 N n  (fun σ6 w7 => lf_X12_check_59 N n  (fun σ13 w14 => bd (f_X12_begin N n (sg σ13 59 10 1) ) (fun r15 σ16 => some (0, σ16))) N σ6 0) N (sg σ 59 0 0) 0)) else (some (0, sg σ 59 0 0))
set_option maxHeartbeats 4000000 in
set_option maxRecDepth 100000 in
theorem lp_X12_check_26 {p : Program} {l : Launch} {e : Env} {s : State} {m : MethodId} {args : Array Value} {below : List Frame} {meth : Method} {c : Code} {Q : State → Prop} {A : Nat → Prop} {g : GG} {q N n : Nat} {out : Int32 × Sg}  {K57 : (Sg → Int32 → Option (Int32 × Sg))}
    (hC : CXi p l e (qR 4 97) s m args below meth c cX12_check 3 RX12 g q n A Q (some out)) :
    ∀ (k : Nat) (σ : Sg) (v1 : Int32) (H : Heap) (locs : List Loc) (ls : Array Slot), lf_X12_check_26 N n  K57 k σ v1 = some out → wI g q n σ A s.heap H locs → lv_has ls 3 [(0, .ref (ga g 59)), (1, .int v1)] → (∀ (σ : Sg) (v1 : Int32) (H : Heap) (locs : List Loc) (ls : Array Slot), K57 σ v1 = some out → wI g q n σ A s.heap H locs → lv_has ls 3 [(0, .ref (ga g 59))] → W p l e (qR 4 97) s m args below meth c H locs 0 0 Q (F0 m 57 ls [])) → W p l e (qR 4 97) s m args below meth c H locs 0 0 Q (F0 m 26 ls []) := by
  obtain ⟨hX, hK, hN, hZ, hA, hR⟩ := id hC
  have hx : p.tables.exec = Jvm.exec := hX.1
  have hb : c.code = cX12_check := hX.2.1
  have hml : c.maxLocals = 3 := hX.2.2.1
  have hown : s.vm.findClass RX12 = some m.cls := hX.2.2.2.1
  have ht : ∀ w ∈ BIG, w.before args s = true := hX.2.2.2.2
  intro k
  induction k with
  | zero =>
    intro σ v1 H locs ls hm
    have hm : none = some out := hm
    exact nomatch hm
  | succ k ih =>
    intro σ v1 H locs ls hm hI hl hx57
    have hm : lb_X12_check_26 N n  K57 (lf_X12_check_26 N n  K57 k) σ v1 = some out := hm
    unfold lb_X12_check_26 at hm
    refine lv_iload_n hx hb dX12_check_26 rfl (lv_at hl 1 rfl) ?_
    refine lv_aload_n hx hb dX12_check_27 rfl (lv_at hl 0 rfl) ?_
    refine gf_59_1 hx hb ht hK hI (v := σ 59 1) rfl mw_852 (fun _ h9 => h9) hown dX12_check_28 ?_
    refine lv_icmp_ge (tgt := 57) hx hb dX12_check_31 (by decide) (fun c3 => ?_) (fun c3 => ?_)
    · have hm := (if_pos c3).symm.trans hm
      exact hx57 σ v1 _ _ _ hm hI (lv_sub hl [0] rfl)
    · have hm := (if_neg c3).symm.trans hm
      refine lv_aload_n hx hb dX12_check_34 rfl (lv_at hl 0 rfl) ?_
      refine gf_59_5 hx hb ht hK hI mw_758 (fun _ h9 => h9) hown dX12_check_35 ?_
      refine lv_iload_n hx hb dX12_check_38 rfl (lv_at hl 1 rfl) ?_
      obtain ⟨g4, hm⟩ := gb_some hm
      refine ld_63 hx hb hK hI g4 (v := σ 63 (ix v1)) rfl dX12_check_39 ?_
      refine lv_if_ne (tgt := 51) hx hb dX12_check_40 (by decide) (fun c5 => ?_) (fun c5 => ?_)
      · have hm := (if_neg c5).symm.trans hm
        refine lv_iinc (v := v1 + 1) (lv' := [(1, .int (v1 + 1)), (0, .ref (ga g 59))]) hx hb dX12_check_51 hl (k := 1) rfl (congrArg (fun z => v1 + z) (show Int32.ofInt 1 = 1 by decide)) (by decide) rfl (fun ls hl => ?_)
        refine lv_goto (tgt := 26) hx hb dX12_check_54 (by decide) ?_
        exact ih σ (v1 + 1) _ _ _ hm hI (lv_sub hl [1, 0] rfl) hx57
      · have hm := (if_pos c5).symm.trans hm
        refine lv_bipush (v := 6) hx hb dX12_check_43 (by decide) ?_
        refine lv_bipush (v := 8) hx hb dX12_check_45 (by decide) ?_
        refine lv_iload_n hx hb dX12_check_47 rfl (lv_at hl 1 rfl) ?_
        refine lv_imul hx hb dX12_check_48 ?_
        refine lv_iadd hx hb dX12_check_49 ?_
        exact hR _ _ _ _ _ _ hm hI dX12_check_50
set_option maxHeartbeats 4000000 in
set_option maxRecDepth 100000 in
theorem lp_X12_check_59 {p : Program} {l : Launch} {e : Env} {s : State} {m : MethodId} {args : Array Value} {below : List Frame} {meth : Method} {c : Code} {Q : State → Prop} {A : Nat → Prop} {g : GG} {q N n : Nat} {out : Int32 × Sg}  {K85 : (Sg → Int32 → Option (Int32 × Sg))}
    (hC : CXi p l e (qR 4 97) s m args below meth c cX12_check 3 RX12 g q n A Q (some out)) :
    ∀ (k : Nat) (σ : Sg) (v1 : Int32) (H : Heap) (locs : List Loc) (ls : Array Slot), lf_X12_check_59 N n  K85 k σ v1 = some out → wI g q n σ A s.heap H locs → lv_has ls 3 [(0, .ref (ga g 59)), (1, .int v1)] → (∀ (σ : Sg) (v1 : Int32) (H : Heap) (locs : List Loc) (ls : Array Slot), K85 σ v1 = some out → wI g q n σ A s.heap H locs → lv_has ls 3 [(0, .ref (ga g 59))] → W p l e (qR 4 97) s m args below meth c H locs 0 0 Q (F0 m 85 ls [])) → W p l e (qR 4 97) s m args below meth c H locs 0 0 Q (F0 m 59 ls []) := by
  obtain ⟨hX, hK, hN, hZ, hA, hR⟩ := id hC
  have hx : p.tables.exec = Jvm.exec := hX.1
  have hb : c.code = cX12_check := hX.2.1
  have hml : c.maxLocals = 3 := hX.2.2.1
  have hown : s.vm.findClass RX12 = some m.cls := hX.2.2.2.1
  have ht : ∀ w ∈ BIG, w.before args s = true := hX.2.2.2.2
  intro k
  induction k with
  | zero =>
    intro σ v1 H locs ls hm
    have hm : none = some out := hm
    exact nomatch hm
  | succ k ih =>
    intro σ v1 H locs ls hm hI hl hx85
    have hm : lb_X12_check_59 N n  K85 (lf_X12_check_59 N n  K85 k) σ v1 = some out := hm
    unfold lb_X12_check_59 at hm
    refine lv_iload_n hx hb dX12_check_59 rfl (lv_at hl 1 rfl) ?_
    refine lv_aload_n hx hb dX12_check_60 rfl (lv_at hl 0 rfl) ?_
    refine gf_59_1 hx hb ht hK hI (v := σ 59 1) rfl mw_852 (fun _ h9 => h9) hown dX12_check_61 ?_
    refine lv_icmp_ge (tgt := 85) hx hb dX12_check_64 (by decide) (fun c8 => ?_) (fun c8 => ?_)
    · have hm := (if_pos c8).symm.trans hm
      exact hx85 σ v1 _ _ _ hm hI (lv_sub hl [0] rfl)
    · have hm := (if_neg c8).symm.trans hm
      refine lv_aload_n hx hb dX12_check_67 rfl (lv_at hl 0 rfl) ?_
      refine lv_iload_n hx hb dX12_check_68 rfl (lv_at hl 1 rfl) ?_
      obtain ⟨r9, σ10, h11, hm⟩ := bd_some hm
      refine k_i hI hA (va_runV (As := [.int v1]) (rest := []) hX (c_X12_checks N n h11 _) (cwV 1 ht (in_V mw_879 mw_880 mw_881 mw_861 mw_877) rfl rfl rfl pd_X12_checks ⟨Nat.le_of_ble_eq_true rfl, Nat.le_of_ble_eq_true rfl⟩) ⟨q_blind, va_recv hK hI.1 (ci := 11) (q0 := 59) rfl rfl, q_to hI hK hN hZ hA⟩ rfl rfl hl.1 rfl (lv_room (Nat.le_of_ble_eq_true rfl)) dX12_check_69 (by decide)) (fun H locs hI => ?_)
      refine lv_istore_n (lv' := [(2, .int r9), (0, .ref (ga g 59)), (1, .int v1)]) hx hb dX12_check_72 rfl hl (by decide) rfl (fun ls hl => ?_)
      refine lv_iload_n hx hb dX12_check_73 rfl (lv_at hl 0 rfl) ?_
      refine lv_if_le (tgt := 79) hx hb dX12_check_74 (by decide) (fun c12 => ?_) (fun c12 => ?_)
      · have hm := (if_pos c12).symm.trans hm
        refine lv_iinc (v := v1 + 1) (lv' := [(1, .int (v1 + 1)), (2, .int r9), (0, .ref (ga g 59))]) hx hb dX12_check_79 hl (k := 2) rfl (congrArg (fun z => v1 + z) (show Int32.ofInt 1 = 1 by decide)) (by decide) rfl (fun ls hl => ?_)
        refine lv_goto (tgt := 59) hx hb dX12_check_82 (by decide) ?_
        exact ih σ10 (v1 + 1) _ _ _ hm hI (lv_sub hl [2, 0] rfl) hx85
      · have hm := (if_neg c12).symm.trans hm
        refine lv_iload_n hx hb dX12_check_77 rfl (lv_at hl 0 rfl) ?_
        exact hR _ _ _ _ _ _ hm hI dX12_check_78
set_option maxHeartbeats 4000000 in
set_option maxRecDepth 100000 in
theorem c_X12_check {l : Launch} {g : GG} {q : Nat} (N n : Nat) {σ : Sg}  {r : Int32} {σ' : Sg} (hm : f_X12_check N n σ  = some (r, σ')) : CTi l yX12_check cX12_check 3 (some .int) 4 97 g q n [.ref (ga g 59)] σ r σ' := by
  refine e_i (r := r) (by decide) (Nat.le_of_ble_eq_true rfl) ?_
  intro p e s m args below meth c A Q ls hC hl hI
  obtain ⟨hX, hK, hN, hZ, hA, hR⟩ := id hC
  have hx : p.tables.exec = Jvm.exec := hX.1
  have hb : c.code = cX12_check := hX.2.1
  have hml : c.maxLocals = 3 := hX.2.2.1
  have hown : s.vm.findClass RX12 = some m.cls := hX.2.2.2.1
  have ht : ∀ w ∈ BIG, w.before args s = true := hX.2.2.2.2
  have hl : lv_has ls 3 [(0, .ref (ga g 59))] := hl
  unfold f_X12_check at hm
  refine lv_aload_n hx hb dX12_check_0 rfl (lv_at hl 0 rfl) ?_
  refine lv_iconst (v := 0) hx hb dX12_check_1 (by decide) ?_
  refine pf_59_0 hx hb ht hK hI mw_851 (fun _ h9 => h9) hown dX12_check_2 (fun H locs hI => ?_)
  refine lv_aload_n hx hb dX12_check_5 rfl (lv_at hl 0 rfl) ?_
  refine gf_59_10 hx hb ht hK hI (v := σ 59 10) rfl mw_853 (fun _ h9 => h9) hown dX12_check_6 ?_
  refine lv_if_eq (tgt := 14) hx hb dX12_check_9 (by decide) (fun c1 => ?_) (fun c1 => ?_)
  · have hm := (if_pos c1).symm.trans hm
    refine lv_aload_n hx hb dX12_check_14 rfl (lv_at hl 0 rfl) ?_
    refine gf_59_1 hx hb ht hK hI (v := σ 59 1) rfl mw_852 (fun _ h9 => h9) hown dX12_check_15 ?_
    refine lv_if_ne (tgt := 24) hx hb dX12_check_18 (by decide) (fun c2 => ?_) (fun c2 => ?_)
    · have hm := (if_neg c2).symm.trans hm
      refine lv_iconst (v := 0) hx hb dX12_check_24 (by decide) ?_
      refine lv_istore_n (lv' := [(1, .int 0), (0, .ref (ga g 59))]) hx hb dX12_check_25 rfl hl (by decide) rfl (fun ls hl => ?_)
      refine lp_X12_check_26 hC N _ _ _ _ _ hm hI (lv_sub hl [1, 0] rfl) ?_
      intro σ6 w7 H locs ls hm hI hl
      refine lv_iconst (v := 0) hx hb dX12_check_57 (by decide) ?_
      refine lv_istore_n (lv' := [(1, .int 0), (0, .ref (ga g 59))]) hx hb dX12_check_58 rfl hl (by decide) rfl (fun ls hl => ?_)
      refine lp_X12_check_59 hC N _ _ _ _ _ hm hI (lv_sub hl [1, 0] rfl) ?_
      intro σ13 w14 H locs ls hm hI hl
      refine lv_aload_n hx hb dX12_check_85 rfl (lv_at hl 0 rfl) ?_
      refine lv_iconst (v := 1) hx hb dX12_check_86 (by decide) ?_
      refine pf_59_10 hx hb ht hK hI mw_853 (fun _ h9 => h9) (by decide) (by decide) hown dX12_check_87 (fun H locs hI => ?_)
      refine lv_aload_n hx hb dX12_check_90 rfl (lv_at hl 0 rfl) ?_
      obtain ⟨r15, σ16, h17, hm⟩ := bd_some hm
      refine k_v hI hA (va_runV (As := []) (rest := []) hX (c_X12_begin N n h17 _) (cwV 0 ht (in_V mw_882 mw_883 mw_884 mw_861 mw_878) rfl rfl rfl pd_X12_begin ⟨Nat.le_of_ble_eq_true rfl, Nat.le_of_ble_eq_true rfl⟩) ⟨q_blind, va_recv hK hI.1 (ci := 11) (q0 := 59) rfl rfl, q_to hI hK hN hZ hA⟩ rfl rfl hl.1 rfl (lv_room (Nat.le_of_ble_eq_true rfl)) dX12_check_91 (by decide)) (fun H locs hI => ?_)
      refine lv_iconst (v := 0) hx hb dX12_check_94 (by decide) ?_
      exact hR _ _ _ _ _ _ hm hI dX12_check_95
    · have hm := (if_pos c2).symm.trans hm
      refine lv_bipush (v := 7) hx hb dX12_check_21 (by decide) ?_
      exact hR _ _ _ _ _ _ hm hI dX12_check_23
  · have hm := (if_neg c1).symm.trans hm
    refine lv_iconst (v := 0) hx hb dX12_check_12 (by decide) ?_
    exact hR _ _ _ _ _ _ hm hI dX12_check_13
def lb_X12_clear_27 (N n : Nat)  (K47 : (Sg → Int32 → Option (Int32 × Sg))) (rec : (Sg → Int32 → Option (Int32 × Sg))) (σ : Sg) (v1 : Int32) : Option (Int32 × Sg) := if 128 ≤ v1 then (K47 σ v1) else (gb v1 128 (rec (sg σ 88 (ix v1) 0) (v1 + 1)))
def lf_X12_clear_27 (N n : Nat)  (K47 : (Sg → Int32 → Option (Int32 × Sg))) : Nat → (Sg → Int32 → Option (Int32 × Sg))
  | 0 => fun _ _ => none
  | k + 1 => lb_X12_clear_27 N n  K47 (lf_X12_clear_27 N n  K47 k)
def f_X12_clear (N n : Nat) (σ : Sg)  : Option (Int32 × Sg) := lf_X12_clear_27 N n  (fun σ3 w4 => bd (f_X12_begin N n σ3 ) (fun r5 σ6 => some (0, σ6))) N (sg (sg (sg (sg (sg σ 59 0 0) 59 1 0) 59 6 0) 59 10 0) 59 37 0) 0
set_option maxHeartbeats 4000000 in
set_option maxRecDepth 100000 in
theorem lp_X12_clear_27 {p : Program} {l : Launch} {e : Env} {s : State} {m : MethodId} {args : Array Value} {below : List Frame} {meth : Method} {c : Code} {Q : State → Prop} {A : Nat → Prop} {g : GG} {q N n : Nat} {out : Int32 × Sg}  {K47 : (Sg → Int32 → Option (Int32 × Sg))}
    (hC : CXv p l e (qR 1 21) s m args below meth c cX12_clear 2 RX12 g q n A Q (some out)) :
    ∀ (k : Nat) (σ : Sg) (v1 : Int32) (H : Heap) (locs : List Loc) (ls : Array Slot), lf_X12_clear_27 N n  K47 k σ v1 = some out → wI g q n σ A s.heap H locs → lv_has ls 2 [(0, .ref (ga g 59)), (1, .int v1)] → (∀ (σ : Sg) (v1 : Int32) (H : Heap) (locs : List Loc) (ls : Array Slot), K47 σ v1 = some out → wI g q n σ A s.heap H locs → lv_has ls 2 [(0, .ref (ga g 59))] → W p l e (qR 1 21) s m args below meth c H locs 0 0 Q (F0 m 47 ls [])) → W p l e (qR 1 21) s m args below meth c H locs 0 0 Q (F0 m 27 ls []) := by
  obtain ⟨hX, hK, hN, hZ, hA, hR⟩ := id hC
  have hx : p.tables.exec = Jvm.exec := hX.1
  have hb : c.code = cX12_clear := hX.2.1
  have hml : c.maxLocals = 2 := hX.2.2.1
  have hown : s.vm.findClass RX12 = some m.cls := hX.2.2.2.1
  have ht : ∀ w ∈ BIG, w.before args s = true := hX.2.2.2.2
  intro k
  induction k with
  | zero =>
    intro σ v1 H locs ls hm
    have hm : none = some out := hm
    exact nomatch hm
  | succ k ih =>
    intro σ v1 H locs ls hm hI hl hx47
    have hm : lb_X12_clear_27 N n  K47 (lf_X12_clear_27 N n  K47 k) σ v1 = some out := hm
    unfold lb_X12_clear_27 at hm
    refine lv_iload_n hx hb dX12_clear_27 rfl (lv_at hl 1 rfl) ?_
    refine lv_sipush (v := 128) hx hb dX12_clear_28 (by decide) ?_
    refine lv_icmp_ge (tgt := 47) hx hb dX12_clear_31 (by decide) (fun c1 => ?_) (fun c1 => ?_)
    · have hm := (if_pos c1).symm.trans hm
      exact hx47 σ v1 _ _ _ hm hI (lv_sub hl [0] rfl)
    · have hm := (if_neg c1).symm.trans hm
      refine lv_aload_n hx hb dX12_clear_34 rfl (lv_at hl 0 rfl) ?_
      refine gf_59_38 hx hb ht hK hI mw_783 (fun _ h9 => h9) hown dX12_clear_35 ?_
      refine lv_iload_n hx hb dX12_clear_38 rfl (lv_at hl 1 rfl) ?_
      refine lv_iconst (v := 0) hx hb dX12_clear_39 (by decide) ?_
      obtain ⟨g2, hm⟩ := gb_some hm
      refine sv_88 hx hb hK hI g2 dX12_clear_40 (fun H locs hI => ?_)
      refine lv_iinc (v := v1 + 1) (lv' := [(1, .int (v1 + 1)), (0, .ref (ga g 59))]) hx hb dX12_clear_41 hl (k := 1) rfl (congrArg (fun z => v1 + z) (show Int32.ofInt 1 = 1 by decide)) (by decide) rfl (fun ls hl => ?_)
      refine lv_goto (tgt := 27) hx hb dX12_clear_44 (by decide) ?_
      exact ih (sg σ 88 (ix v1) 0) (v1 + 1) _ _ _ hm hI (lv_sub hl [1, 0] rfl) hx47
set_option maxHeartbeats 4000000 in
set_option maxRecDepth 100000 in
theorem c_X12_clear {l : Launch} {g : GG} {q : Nat} (N n : Nat) {σ : Sg}  {r : Int32} {σ' : Sg} (hm : f_X12_clear N n σ  = some (r, σ')) : CTv l yX12_clear cX12_clear 2 none 1 21 g q n [.ref (ga g 59)] σ σ' := by
  refine e_v (r := r) (by decide) (Nat.le_of_ble_eq_true rfl) ?_
  intro p e s m args below meth c A Q ls hC hl hI
  obtain ⟨hX, hK, hN, hZ, hA, hR⟩ := id hC
  have hx : p.tables.exec = Jvm.exec := hX.1
  have hb : c.code = cX12_clear := hX.2.1
  have hml : c.maxLocals = 2 := hX.2.2.1
  have hown : s.vm.findClass RX12 = some m.cls := hX.2.2.2.1
  have ht : ∀ w ∈ BIG, w.before args s = true := hX.2.2.2.2
  have hl : lv_has ls 2 [(0, .ref (ga g 59))] := hl
  unfold f_X12_clear at hm
  refine lv_aload_n hx hb dX12_clear_0 rfl (lv_at hl 0 rfl) ?_
  refine lv_iconst (v := 0) hx hb dX12_clear_1 (by decide) ?_
  refine pf_59_0 hx hb ht hK hI mw_851 (fun _ h9 => h9) hown dX12_clear_2 (fun H locs hI => ?_)
  refine lv_aload_n hx hb dX12_clear_5 rfl (lv_at hl 0 rfl) ?_
  refine lv_iconst (v := 0) hx hb dX12_clear_6 (by decide) ?_
  refine pf_59_1 hx hb ht hK hI mw_852 (fun _ h9 => h9) hown dX12_clear_7 (fun H locs hI => ?_)
  refine lv_aload_n hx hb dX12_clear_10 rfl (lv_at hl 0 rfl) ?_
  refine lv_iconst (v := 0) hx hb dX12_clear_11 (by decide) ?_
  refine pf_59_6 hx hb ht hK hI mw_854 (fun _ h9 => h9) hown dX12_clear_12 (fun H locs hI => ?_)
  refine lv_aload_n hx hb dX12_clear_15 rfl (lv_at hl 0 rfl) ?_
  refine lv_iconst (v := 0) hx hb dX12_clear_16 (by decide) ?_
  refine pf_59_10 hx hb ht hK hI mw_853 (fun _ h9 => h9) (by decide) (by decide) hown dX12_clear_17 (fun H locs hI => ?_)
  refine lv_aload_n hx hb dX12_clear_20 rfl (lv_at hl 0 rfl) ?_
  refine lv_iconst (v := 0) hx hb dX12_clear_21 (by decide) ?_
  refine pf_59_37 hx hb ht hK hI mw_991 (fun _ h9 => h9) (by decide) (by decide) hown dX12_clear_22 (fun H locs hI => ?_)
  refine lv_iconst (v := 0) hx hb dX12_clear_25 (by decide) ?_
  refine lv_istore_n (lv' := [(1, .int 0), (0, .ref (ga g 59))]) hx hb dX12_clear_26 rfl hl (by decide) rfl (fun ls hl => ?_)
  refine lp_X12_clear_27 hC N _ _ _ _ _ hm hI (lv_sub hl [1, 0] rfl) ?_
  intro σ3 w4 H locs ls hm hI hl
  refine lv_aload_n hx hb dX12_clear_47 rfl (lv_at hl 0 rfl) ?_
  obtain ⟨r5, σ6, h7, hm⟩ := bd_some hm
  refine k_v hI hA (va_runV (As := []) (rest := []) hX (c_X12_begin N n h7 _) (cwV 0 ht (in_V mw_882 mw_883 mw_884 mw_861 mw_878) rfl rfl rfl pd_X12_begin ⟨Nat.le_of_ble_eq_true rfl, Nat.le_of_ble_eq_true rfl⟩) ⟨q_blind, va_recv hK hI.1 (ci := 11) (q0 := 59) rfl rfl, q_to hI hK hN hZ hA⟩ rfl rfl hl.1 rfl (lv_room (Nat.le_of_ble_eq_true rfl)) dX12_clear_48 (by decide)) (fun H locs hI => ?_)
  exact hR _ _ _ _ _ hm hI dX12_clear_51
def f_X12_isJump (N n : Nat) (σ : Sg) (p0 : Int32) : Option (Int32 × Sg) := if p0 = 4 then (some (1, σ)) else (if p0 = 5 then (some (1, σ)) else (some (0, σ)))
set_option maxHeartbeats 4000000 in
set_option maxRecDepth 100000 in
theorem c_X12_isJump {l : Launch} {g : GG} {q : Nat} (N n : Nat) {σ : Sg} {p0 : Int32} {r : Int32} {σ' : Sg} (hm : f_X12_isJump N n σ p0 = some (r, σ')) : CTi l yX12_isJump cX12_isJump 1 (some .boolean) 0 0 g q n [.int p0] σ r σ' := by
  refine e_z (r := r) (by decide) (Nat.le_of_ble_eq_true rfl) ?_
  intro p e s m args below meth c A Q ls hC hl hI
  obtain ⟨hX, hK, hN, hZ, hA, hR⟩ := id hC
  have hx : p.tables.exec = Jvm.exec := hX.1
  have hb : c.code = cX12_isJump := hX.2.1
  have hml : c.maxLocals = 1 := hX.2.2.1
  have hown : s.vm.findClass RX12 = some m.cls := hX.2.2.2.1
  have ht : ∀ w ∈ BIG, w.before args s = true := hX.2.2.2.2
  have hl : lv_has ls 1 [(0, .int p0)] := hl
  unfold f_X12_isJump at hm
  refine lv_iload_n hx hb dX12_isJump_0 rfl (lv_at hl 0 rfl) ?_
  refine lv_iconst (v := 4) hx hb dX12_isJump_1 (by decide) ?_
  refine lv_icmp_eq (tgt := 10) hx hb dX12_isJump_2 (by decide) (fun c1 => ?_) (fun c1 => ?_)
  · have hm := (if_pos c1).symm.trans hm
    refine lv_iconst (v := 1) hx hb dX12_isJump_10 (by decide) ?_
    refine lv_goto (tgt := 15) hx hb dX12_isJump_11 (by decide) ?_
    exact hR _ _ _ _ _ _ hm hI (by decide) dX12_isJump_15
  · have hm := (if_neg c1).symm.trans hm
    refine lv_iload_n hx hb dX12_isJump_5 rfl (lv_at hl 0 rfl) ?_
    refine lv_iconst (v := 5) hx hb dX12_isJump_6 (by decide) ?_
    refine lv_icmp_ne (tgt := 14) hx hb dX12_isJump_7 (by decide) (fun c2 => ?_) (fun c2 => ?_)
    · have hm := (if_neg c2).symm.trans hm
      refine lv_iconst (v := 0) hx hb dX12_isJump_14 (by decide) ?_
      exact hR _ _ _ _ _ _ hm hI (by decide) dX12_isJump_15
    · have hm := (if_pos c2).symm.trans hm
      refine lv_iconst (v := 1) hx hb dX12_isJump_10 (by decide) ?_
      refine lv_goto (tgt := 15) hx hb dX12_isJump_11 (by decide) ?_
      exact hR _ _ _ _ _ _ hm hI (by decide) dX12_isJump_15
def lb_X12_closesUp_99 (N n : Nat) (u1 : Int32) (u2 : Int32) (u3 : Int32) (K140 : (Sg → Int32 → Option (Int32 × Sg))) (rec : (Sg → Int32 → Option (Int32 × Sg))) (σ : Sg) (v4 : Int32) : Option (Int32 × Sg) := gb u2 300 (if (σ 71 (ix u2)) ≤ v4 then (K140 σ v4) else (gb ((8 * u2) + v4) 2400 (gb ((8 * u3) + v4) 2400 (rec (sg σ 70 (ix ((8 * u3) + v4)) (σ 70 (ix ((8 * u2) + v4)))) (v4 + 1)))))
def lf_X12_closesUp_99 (N n : Nat) (u1 : Int32) (u2 : Int32) (u3 : Int32) (K140 : (Sg → Int32 → Option (Int32 × Sg))) : Nat → (Sg → Int32 → Option (Int32 × Sg))
  | 0 => fun _ _ => none
  | k + 1 => lb_X12_closesUp_99 N n u1 u2 u3 K140 (lf_X12_closesUp_99 N n u1 u2 u3 K140 k)
def lb_X12_closesUp_2 (N n : Nat) (u1 : Int32) (K146 : (Sg → Int32 → Option (Int32 × Sg))) (rec : (Sg → Int32 → Option (Int32 × Sg))) (σ : Sg) (v2 : Int32) : Option (Int32 × Sg) := if (σ 59 12) ≤ v2 then (K146 σ v2) else (gb (v2 + 1) 301 (gb v2 301 (if (σ 73 (ix (v2 + 1))) ≤ (σ 73 (ix v2)) then (rec σ (v2 + 1)) else (gb v2 301 (gb v2 300 (gb (σ 73 (ix v2)) 300 (gb v2 300 (bd (f_X12_isJump N n (sg σ 68 (ix (σ 73 (ix v2))) (σ 68 (ix v2))) (upd (σ 68) (ix (σ 73 (ix v2))) (σ 68 (ix v2)) (ix v2))) (fun r9 σ10 => if r9 = 0 then (gb v2 300 (gb (σ 73 (ix v2)) 300 (gb v2 300 (gb (σ 73 (ix v2)) 300 (lf_X12_closesUp_99 N n u1 v2 (σ 73 (ix v2)) (fun σ21 w22 => rec σ21 (v2 + 1)) N (sg (sg σ10 69 (ix (σ 73 (ix v2))) (σ10 69 (ix v2))) 71 (ix (σ 73 (ix v2))) (σ10 71 (ix v2))) 0))))) else (gb v2 300 (gb (σ10 69 (ix v2)) 301 (gb (σ 73 (ix v2)) 300 (gb v2 300 (gb (σ 73 (ix v2)) 300 (lf_X12_closesUp_99 N n u1 v2 (σ 73 (ix v2)) (fun σ28 w29 => rec σ28 (v2 + 1)) N (sg (sg σ10 69 (ix (σ 73 (ix v2))) (σ10 73 (ix (σ10 69 (ix v2))))) 71 (ix (σ 73 (ix v2))) (σ10 71 (ix v2))) 0)))))))))))))))
def lf_X12_closesUp_2 (N n : Nat) (u1 : Int32) (K146 : (Sg → Int32 → Option (Int32 × Sg))) : Nat → (Sg → Int32 → Option (Int32 × Sg))
  | 0 => fun _ _ => none
  | k + 1 => lb_X12_closesUp_2 N n u1 K146 (lf_X12_closesUp_2 N n u1 K146 k)
def f_X12_closesUp (N n : Nat) (σ : Sg) (p0 : Int32) : Option (Int32 × Sg) := lf_X12_closesUp_2 N n p0 (fun σ30 w31 => some (0, sg σ30 59 12 p0)) N σ 0
set_option maxHeartbeats 4000000 in
set_option maxRecDepth 100000 in
theorem lp_X12_closesUp_99 {p : Program} {l : Launch} {e : Env} {s : State} {m : MethodId} {args : Array Value} {below : List Frame} {meth : Method} {c : Code} {Q : State → Prop} {A : Nat → Prop} {g : GG} {q N n : Nat} {out : Int32 × Sg} {u1 : Int32} {u2 : Int32} {u3 : Int32} {K140 : (Sg → Int32 → Option (Int32 × Sg))}
    (hC : CXv p l e (qR 1 20) s m args below meth c cX12_closesUp 5 RX12 g q n A Q (some out)) :
    ∀ (k : Nat) (σ : Sg) (v4 : Int32) (H : Heap) (locs : List Loc) (ls : Array Slot), lf_X12_closesUp_99 N n u1 u2 u3 K140 k σ v4 = some out → wI g q n σ A s.heap H locs → lv_has ls 5 [(0, .ref (ga g 59)), (1, .int u1), (2, .int u2), (3, .int u3), (4, .int v4)] → (∀ (σ : Sg) (v4 : Int32) (H : Heap) (locs : List Loc) (ls : Array Slot), K140 σ v4 = some out → wI g q n σ A s.heap H locs → lv_has ls 5 [(0, .ref (ga g 59)), (1, .int u1), (2, .int u2)] → W p l e (qR 1 20) s m args below meth c H locs 0 0 Q (F0 m 140 ls [])) → W p l e (qR 1 20) s m args below meth c H locs 0 0 Q (F0 m 99 ls []) := by
  obtain ⟨hX, hK, hN, hZ, hA, hR⟩ := id hC
  have hx : p.tables.exec = Jvm.exec := hX.1
  have hb : c.code = cX12_closesUp := hX.2.1
  have hml : c.maxLocals = 5 := hX.2.2.1
  have hown : s.vm.findClass RX12 = some m.cls := hX.2.2.2.1
  have ht : ∀ w ∈ BIG, w.before args s = true := hX.2.2.2.2
  intro k
  induction k with
  | zero =>
    intro σ v4 H locs ls hm
    have hm : none = some out := hm
    exact nomatch hm
  | succ k ih =>
    intro σ v4 H locs ls hm hI hl hx140
    have hm : lb_X12_closesUp_99 N n u1 u2 u3 K140 (lf_X12_closesUp_99 N n u1 u2 u3 K140 k) σ v4 = some out := hm
    unfold lb_X12_closesUp_99 at hm
    refine lv_iload hx hb dX12_closesUp_99 (lv_at hl 4 rfl) ?_
    refine lv_aload_n hx hb dX12_closesUp_101 rfl (lv_at hl 0 rfl) ?_
    refine gf_59_16 hx hb ht hK hI mw_766 (fun _ h9 => h9) hown dX12_closesUp_102 ?_
    refine lv_iload_n hx hb dX12_closesUp_105 rfl (lv_at hl 2 rfl) ?_
    obtain ⟨g17, hm⟩ := gb_some hm
    refine ld_71 hx hb hK hI g17 (v := σ 71 (ix u2)) rfl dX12_closesUp_106 ?_
    refine lv_icmp_ge (tgt := 140) hx hb dX12_closesUp_107 (by decide) (fun c18 => ?_) (fun c18 => ?_)
    · have hm := (if_pos c18).symm.trans hm
      exact hx140 σ v4 _ _ _ hm hI (lv_sub hl [0, 1, 2] rfl)
    · have hm := (if_neg c18).symm.trans hm
      refine lv_aload_n hx hb dX12_closesUp_110 rfl (lv_at hl 0 rfl) ?_
      refine gf_59_15 hx hb ht hK hI mw_765 (fun _ h9 => h9) hown dX12_closesUp_111 ?_
      refine lv_bipush (v := 8) hx hb dX12_closesUp_114 (by decide) ?_
      refine lv_iload_n hx hb dX12_closesUp_116 rfl (lv_at hl 3 rfl) ?_
      refine lv_imul hx hb dX12_closesUp_117 ?_
      refine lv_iload hx hb dX12_closesUp_118 (lv_at hl 4 rfl) ?_
      refine lv_iadd hx hb dX12_closesUp_120 ?_
      refine lv_aload_n hx hb dX12_closesUp_121 rfl (lv_at hl 0 rfl) ?_
      refine gf_59_15 hx hb ht hK hI mw_765 (fun _ h9 => h9) hown dX12_closesUp_122 ?_
      refine lv_bipush (v := 8) hx hb dX12_closesUp_125 (by decide) ?_
      refine lv_iload_n hx hb dX12_closesUp_127 rfl (lv_at hl 2 rfl) ?_
      refine lv_imul hx hb dX12_closesUp_128 ?_
      refine lv_iload hx hb dX12_closesUp_129 (lv_at hl 4 rfl) ?_
      refine lv_iadd hx hb dX12_closesUp_131 ?_
      obtain ⟨g19, hm⟩ := gb_some hm
      refine ld_70 hx hb hK hI g19 (v := σ 70 (ix ((8 * u2) + v4))) rfl dX12_closesUp_132 ?_
      obtain ⟨g20, hm⟩ := gb_some hm
      refine sv_70 hx hb hK hI g20 dX12_closesUp_133 (fun H locs hI => ?_)
      refine lv_iinc (v := v4 + 1) (lv' := [(4, .int (v4 + 1)), (0, .ref (ga g 59)), (1, .int u1), (2, .int u2), (3, .int u3)]) hx hb dX12_closesUp_134 hl (k := 4) rfl (congrArg (fun z => v4 + z) (show Int32.ofInt 1 = 1 by decide)) (by decide) rfl (fun ls hl => ?_)
      refine lv_goto (tgt := 99) hx hb dX12_closesUp_137 (by decide) ?_
      exact ih (sg σ 70 (ix ((8 * u3) + v4)) (σ 70 (ix ((8 * u2) + v4)))) (v4 + 1) _ _ _ hm hI (lv_sub hl [1, 2, 3, 4, 0] rfl) hx140
set_option maxHeartbeats 4000000 in
set_option maxRecDepth 100000 in
theorem lp_X12_closesUp_2 {p : Program} {l : Launch} {e : Env} {s : State} {m : MethodId} {args : Array Value} {below : List Frame} {meth : Method} {c : Code} {Q : State → Prop} {A : Nat → Prop} {g : GG} {q N n : Nat} {out : Int32 × Sg} {u1 : Int32} {K146 : (Sg → Int32 → Option (Int32 × Sg))}
    (hC : CXv p l e (qR 1 20) s m args below meth c cX12_closesUp 5 RX12 g q n A Q (some out)) :
    ∀ (k : Nat) (σ : Sg) (v2 : Int32) (H : Heap) (locs : List Loc) (ls : Array Slot), lf_X12_closesUp_2 N n u1 K146 k σ v2 = some out → wI g q n σ A s.heap H locs → lv_has ls 5 [(0, .ref (ga g 59)), (1, .int u1), (2, .int v2)] → (∀ (σ : Sg) (v2 : Int32) (H : Heap) (locs : List Loc) (ls : Array Slot), K146 σ v2 = some out → wI g q n σ A s.heap H locs → lv_has ls 5 [(0, .ref (ga g 59)), (1, .int u1)] → W p l e (qR 1 20) s m args below meth c H locs 0 0 Q (F0 m 146 ls [])) → W p l e (qR 1 20) s m args below meth c H locs 0 0 Q (F0 m 2 ls []) := by
  obtain ⟨hX, hK, hN, hZ, hA, hR⟩ := id hC
  have hx : p.tables.exec = Jvm.exec := hX.1
  have hb : c.code = cX12_closesUp := hX.2.1
  have hml : c.maxLocals = 5 := hX.2.2.1
  have hown : s.vm.findClass RX12 = some m.cls := hX.2.2.2.1
  have ht : ∀ w ∈ BIG, w.before args s = true := hX.2.2.2.2
  intro k
  induction k with
  | zero =>
    intro σ v2 H locs ls hm
    have hm : none = some out := hm
    exact nomatch hm
  | succ k ih =>
    intro σ v2 H locs ls hm hI hl hx146
    have hm : lb_X12_closesUp_2 N n u1 K146 (lf_X12_closesUp_2 N n u1 K146 k) σ v2 = some out := hm
    unfold lb_X12_closesUp_2 at hm
    refine lv_iload_n hx hb dX12_closesUp_2 rfl (lv_at hl 2 rfl) ?_
    refine lv_aload_n hx hb dX12_closesUp_3 rfl (lv_at hl 0 rfl) ?_
    refine gf_59_12 hx hb ht hK hI (v := σ 59 12) rfl mw_888 (fun _ h9 => h9) hown dX12_closesUp_4 ?_
    refine lv_icmp_ge (tgt := 146) hx hb dX12_closesUp_7 (by decide) (fun c1 => ?_) (fun c1 => ?_)
    · have hm := (if_pos c1).symm.trans hm
      exact hx146 σ v2 _ _ _ hm hI (lv_sub hl [0, 1] rfl)
    · have hm := (if_neg c1).symm.trans hm
      refine lv_aload_n hx hb dX12_closesUp_10 rfl (lv_at hl 0 rfl) ?_
      refine gf_59_18 hx hb ht hK hI mw_768 (fun _ h9 => h9) hown dX12_closesUp_11 ?_
      refine lv_iload_n hx hb dX12_closesUp_14 rfl (lv_at hl 2 rfl) ?_
      refine lv_iconst (v := 1) hx hb dX12_closesUp_15 (by decide) ?_
      refine lv_iadd hx hb dX12_closesUp_16 ?_
      obtain ⟨g2, hm⟩ := gb_some hm
      refine ld_73 hx hb hK hI g2 (v := σ 73 (ix (v2 + 1))) rfl dX12_closesUp_17 ?_
      refine lv_aload_n hx hb dX12_closesUp_18 rfl (lv_at hl 0 rfl) ?_
      refine gf_59_18 hx hb ht hK hI mw_768 (fun _ h9 => h9) hown dX12_closesUp_19 ?_
      refine lv_iload_n hx hb dX12_closesUp_22 rfl (lv_at hl 2 rfl) ?_
      obtain ⟨g3, hm⟩ := gb_some hm
      refine ld_73 hx hb hK hI g3 (v := σ 73 (ix v2)) rfl dX12_closesUp_23 ?_
      refine lv_icmp_le (tgt := 140) hx hb dX12_closesUp_24 (by decide) (fun c4 => ?_) (fun c4 => ?_)
      · have hm := (if_pos c4).symm.trans hm
        refine lv_iinc (v := v2 + 1) (lv' := [(2, .int (v2 + 1)), (0, .ref (ga g 59)), (1, .int u1)]) hx hb dX12_closesUp_140 hl (k := 2) rfl (congrArg (fun z => v2 + z) (show Int32.ofInt 1 = 1 by decide)) (by decide) rfl (fun ls hl => ?_)
        refine lv_goto (tgt := 2) hx hb dX12_closesUp_143 (by decide) ?_
        exact ih σ (v2 + 1) _ _ _ hm hI (lv_sub hl [1, 2, 0] rfl) hx146
      · have hm := (if_neg c4).symm.trans hm
        refine lv_aload_n hx hb dX12_closesUp_27 rfl (lv_at hl 0 rfl) ?_
        refine gf_59_18 hx hb ht hK hI mw_768 (fun _ h9 => h9) hown dX12_closesUp_28 ?_
        refine lv_iload_n hx hb dX12_closesUp_31 rfl (lv_at hl 2 rfl) ?_
        obtain ⟨g5, hm⟩ := gb_some hm
        refine ld_73 hx hb hK hI g5 (v := σ 73 (ix v2)) rfl dX12_closesUp_32 ?_
        refine lv_istore_n (lv' := [(3, .int (σ 73 (ix v2))), (0, .ref (ga g 59)), (1, .int u1), (2, .int v2)]) hx hb dX12_closesUp_33 rfl hl (by decide) rfl (fun ls hl => ?_)
        refine lv_aload_n hx hb dX12_closesUp_34 rfl (lv_at hl 1 rfl) ?_
        refine gf_59_13 hx hb ht hK hI mw_763 (fun _ h9 => h9) hown dX12_closesUp_35 ?_
        refine lv_iload_n hx hb dX12_closesUp_38 rfl (lv_at hl 0 rfl) ?_
        refine lv_aload_n hx hb dX12_closesUp_39 rfl (lv_at hl 1 rfl) ?_
        refine gf_59_13 hx hb ht hK hI mw_763 (fun _ h9 => h9) hown dX12_closesUp_40 ?_
        refine lv_iload_n hx hb dX12_closesUp_43 rfl (lv_at hl 3 rfl) ?_
        obtain ⟨g6, hm⟩ := gb_some hm
        refine ld_68 hx hb hK hI g6 (v := σ 68 (ix v2)) rfl dX12_closesUp_44 ?_
        obtain ⟨g7, hm⟩ := gb_some hm
        refine sv_68 hx hb hK hI g7 dX12_closesUp_45 (fun H locs hI => ?_)
        refine lv_aload_n hx hb dX12_closesUp_46 rfl (lv_at hl 1 rfl) ?_
        refine gf_59_14 hx hb ht hK hI mw_764 (fun _ h9 => h9) hown dX12_closesUp_47 ?_
        refine lv_iload_n hx hb dX12_closesUp_50 rfl (lv_at hl 0 rfl) ?_
        refine lv_aload_n hx hb dX12_closesUp_51 rfl (lv_at hl 1 rfl) ?_
        refine gf_59_13 hx hb ht hK hI mw_763 (fun _ h9 => h9) hown dX12_closesUp_52 ?_
        refine lv_iload_n hx hb dX12_closesUp_55 rfl (lv_at hl 3 rfl) ?_
        obtain ⟨g8, hm⟩ := gb_some hm
        refine ld_68 hx hb hK hI g8 (v := upd (σ 68) (ix (σ 73 (ix v2))) (σ 68 (ix v2)) (ix v2)) rfl dX12_closesUp_56 ?_
        obtain ⟨r9, σ10, h11, hm⟩ := bd_some hm
        refine k_i hI hA (va_runS (As := [.int (upd (σ 68) (ix (σ 73 (ix v2))) (σ 68 (ix v2)) (ix v2))]) (rest := [.int (σ 73 (ix v2)), .ref (ga g 69)]) hX (c_X12_isJump N n h11 _) (va_cwS 1 ht (in_S mw_902 mw_903 mw_861 mw_891) rfl rfl rfl pd_X12_isJump ⟨Nat.le_of_ble_eq_true rfl, Nat.le_of_ble_eq_true rfl⟩) ⟨q_blind, q_to hI hK hN hZ hA⟩ rfl rfl hl.1 rfl (lv_room (Nat.le_of_ble_eq_true rfl)) dX12_closesUp_57 (by decide)) (fun H locs hI => ?_)
        refine lv_if_eq (tgt := 77) hx hb dX12_closesUp_60 (by decide) (fun c12 => ?_) (fun c12 => ?_)
        · have hm := (if_pos c12).symm.trans hm
          refine lv_aload_n hx hb dX12_closesUp_77 rfl (lv_at hl 1 rfl) ?_
          refine gf_59_14 hx hb ht hK hI mw_764 (fun _ h9 => h9) hown dX12_closesUp_78 ?_
          refine lv_iload_n hx hb dX12_closesUp_81 rfl (lv_at hl 3 rfl) ?_
          obtain ⟨g13, hm⟩ := gb_some hm
          refine ld_69 hx hb hK hI g13 (v := σ10 69 (ix v2)) rfl dX12_closesUp_82 ?_
          obtain ⟨g14, hm⟩ := gb_some hm
          refine sv_69 hx hb hK hI g14 dX12_closesUp_83 (fun H locs hI => ?_)
          refine lv_aload_n hx hb dX12_closesUp_84 rfl (lv_at hl 1 rfl) ?_
          refine gf_59_16 hx hb ht hK hI mw_766 (fun _ h9 => h9) hown dX12_closesUp_85 ?_
          refine lv_iload_n hx hb dX12_closesUp_88 rfl (lv_at hl 0 rfl) ?_
          refine lv_aload_n hx hb dX12_closesUp_89 rfl (lv_at hl 1 rfl) ?_
          refine gf_59_16 hx hb ht hK hI mw_766 (fun _ h9 => h9) hown dX12_closesUp_90 ?_
          refine lv_iload_n hx hb dX12_closesUp_93 rfl (lv_at hl 3 rfl) ?_
          obtain ⟨g15, hm⟩ := gb_some hm
          refine ld_71 hx hb hK hI g15 (v := σ10 71 (ix v2)) rfl dX12_closesUp_94 ?_
          obtain ⟨g16, hm⟩ := gb_some hm
          refine sv_71 hx hb hK hI g16 dX12_closesUp_95 (fun H locs hI => ?_)
          refine lv_iconst (v := 0) hx hb dX12_closesUp_96 (by decide) ?_
          refine lv_istore (lv' := [(4, .int 0), (3, .int (σ 73 (ix v2))), (0, .ref (ga g 59)), (1, .int u1), (2, .int v2)]) hx hb dX12_closesUp_97 hl (by decide) rfl (fun ls hl => ?_)
          refine lp_X12_closesUp_99 hC N _ _ _ _ _ hm hI (lv_sub hl [2, 3, 4, 1, 0] rfl) ?_
          intro σ21 w22 H locs ls hm hI hl
          refine lv_iinc (v := v2 + 1) (lv' := [(2, .int (v2 + 1)), (0, .ref (ga g 59)), (1, .int u1)]) hx hb dX12_closesUp_140 hl (k := 2) rfl (congrArg (fun z => v2 + z) (show Int32.ofInt 1 = 1 by decide)) (by decide) rfl (fun ls hl => ?_)
          refine lv_goto (tgt := 2) hx hb dX12_closesUp_143 (by decide) ?_
          exact ih σ21 (v2 + 1) _ _ _ hm hI (lv_sub hl [1, 2, 0] rfl) hx146
        · have hm := (if_neg c12).symm.trans hm
          refine lv_aload_n hx hb dX12_closesUp_63 rfl (lv_at hl 1 rfl) ?_
          refine gf_59_18 hx hb ht hK hI mw_768 (fun _ h9 => h9) hown dX12_closesUp_64 ?_
          refine lv_aload_n hx hb dX12_closesUp_67 rfl (lv_at hl 1 rfl) ?_
          refine gf_59_14 hx hb ht hK hI mw_764 (fun _ h9 => h9) hown dX12_closesUp_68 ?_
          refine lv_iload_n hx hb dX12_closesUp_71 rfl (lv_at hl 3 rfl) ?_
          obtain ⟨g23, hm⟩ := gb_some hm
          refine ld_69 hx hb hK hI g23 (v := σ10 69 (ix v2)) rfl dX12_closesUp_72 ?_
          obtain ⟨g24, hm⟩ := gb_some hm
          refine ld_73 hx hb hK hI g24 (v := σ10 73 (ix (σ10 69 (ix v2)))) rfl dX12_closesUp_73 ?_
          refine lv_goto (tgt := 83) hx hb dX12_closesUp_74 (by decide) ?_
          obtain ⟨g25, hm⟩ := gb_some hm
          refine sv_69 hx hb hK hI g25 dX12_closesUp_83 (fun H locs hI => ?_)
          refine lv_aload_n hx hb dX12_closesUp_84 rfl (lv_at hl 1 rfl) ?_
          refine gf_59_16 hx hb ht hK hI mw_766 (fun _ h9 => h9) hown dX12_closesUp_85 ?_
          refine lv_iload_n hx hb dX12_closesUp_88 rfl (lv_at hl 0 rfl) ?_
          refine lv_aload_n hx hb dX12_closesUp_89 rfl (lv_at hl 1 rfl) ?_
          refine gf_59_16 hx hb ht hK hI mw_766 (fun _ h9 => h9) hown dX12_closesUp_90 ?_
          refine lv_iload_n hx hb dX12_closesUp_93 rfl (lv_at hl 3 rfl) ?_
          obtain ⟨g26, hm⟩ := gb_some hm
          refine ld_71 hx hb hK hI g26 (v := σ10 71 (ix v2)) rfl dX12_closesUp_94 ?_
          obtain ⟨g27, hm⟩ := gb_some hm
          refine sv_71 hx hb hK hI g27 dX12_closesUp_95 (fun H locs hI => ?_)
          refine lv_iconst (v := 0) hx hb dX12_closesUp_96 (by decide) ?_
          refine lv_istore (lv' := [(4, .int 0), (3, .int (σ 73 (ix v2))), (0, .ref (ga g 59)), (1, .int u1), (2, .int v2)]) hx hb dX12_closesUp_97 hl (by decide) rfl (fun ls hl => ?_)
          refine lp_X12_closesUp_99 hC N _ _ _ _ _ hm hI (lv_sub hl [2, 3, 4, 1, 0] rfl) ?_
          intro σ28 w29 H locs ls hm hI hl
          refine lv_iinc (v := v2 + 1) (lv' := [(2, .int (v2 + 1)), (0, .ref (ga g 59)), (1, .int u1)]) hx hb dX12_closesUp_140 hl (k := 2) rfl (congrArg (fun z => v2 + z) (show Int32.ofInt 1 = 1 by decide)) (by decide) rfl (fun ls hl => ?_)
          refine lv_goto (tgt := 2) hx hb dX12_closesUp_143 (by decide) ?_
          exact ih σ28 (v2 + 1) _ _ _ hm hI (lv_sub hl [1, 2, 0] rfl) hx146
set_option maxHeartbeats 4000000 in
set_option maxRecDepth 100000 in
theorem c_X12_closesUp {l : Launch} {g : GG} {q : Nat} (N n : Nat) {σ : Sg} {p0 : Int32} {r : Int32} {σ' : Sg} (hm : f_X12_closesUp N n σ p0 = some (r, σ')) : CTv l yX12_closesUp cX12_closesUp 5 none 1 20 g q n [.ref (ga g 59), .int p0] σ σ' := by
  refine e_v (r := r) (by decide) (Nat.le_of_ble_eq_true rfl) ?_
  intro p e s m args below meth c A Q ls hC hl hI
  obtain ⟨hX, hK, hN, hZ, hA, hR⟩ := id hC
  have hx : p.tables.exec = Jvm.exec := hX.1
  have hb : c.code = cX12_closesUp := hX.2.1
  have hml : c.maxLocals = 5 := hX.2.2.1
  have hown : s.vm.findClass RX12 = some m.cls := hX.2.2.2.1
  have ht : ∀ w ∈ BIG, w.before args s = true := hX.2.2.2.2
  have hl : lv_has ls 5 [(0, .ref (ga g 59)), (1, .int p0)] := hl
  unfold f_X12_closesUp at hm
  refine lv_iconst (v := 0) hx hb dX12_closesUp_0 (by decide) ?_
  refine lv_istore_n (lv' := [(2, .int 0), (0, .ref (ga g 59)), (1, .int p0)]) hx hb dX12_closesUp_1 rfl hl (by decide) rfl (fun ls hl => ?_)
  refine lp_X12_closesUp_2 hC N _ _ _ _ _ hm hI (lv_sub hl [1, 2, 0] rfl) ?_
  intro σ30 w31 H locs ls hm hI hl
  refine lv_aload_n hx hb dX12_closesUp_146 rfl (lv_at hl 0 rfl) ?_
  refine lv_iload_n hx hb dX12_closesUp_147 rfl (lv_at hl 1 rfl) ?_
  refine pf_59_12 hx hb ht hK hI mw_888 (fun _ h9 => h9) hown dX12_closesUp_148 (fun H locs hI => ?_)
  exact hR _ _ _ _ _ hm hI dX12_closesUp_151
def f_X12_slotOf (N n : Nat) (σ : Sg) (p0 : Int32) : Option (Int32 × Sg) := gb ((24 * (σ 59 35)) + p0) 288 (some (σ 80 (ix ((24 * (σ 59 35)) + p0)), σ))
set_option maxHeartbeats 4000000 in
set_option maxRecDepth 100000 in
theorem c_X12_slotOf {l : Launch} {g : GG} {q : Nat} (N n : Nat) {σ : Sg} {p0 : Int32} {r : Int32} {σ' : Sg} (hm : f_X12_slotOf N n σ p0 = some (r, σ')) : CTi l yX12_slotOf cX12_slotOf 2 (some .int) 0 0 g q n [.ref (ga g 59), .int p0] σ r σ' := by
  refine e_i (r := r) (by decide) (Nat.le_of_ble_eq_true rfl) ?_
  intro p e s m args below meth c A Q ls hC hl hI
  obtain ⟨hX, hK, hN, hZ, hA, hR⟩ := id hC
  have hx : p.tables.exec = Jvm.exec := hX.1
  have hb : c.code = cX12_slotOf := hX.2.1
  have hml : c.maxLocals = 2 := hX.2.2.1
  have hown : s.vm.findClass RX12 = some m.cls := hX.2.2.2.1
  have ht : ∀ w ∈ BIG, w.before args s = true := hX.2.2.2.2
  have hl : lv_has ls 2 [(0, .ref (ga g 59)), (1, .int p0)] := hl
  unfold f_X12_slotOf at hm
  refine lv_aload_n hx hb dX12_slotOf_0 rfl (lv_at hl 0 rfl) ?_
  refine gf_59_26 hx hb ht hK hI mw_775 (fun _ h9 => h9) hown dX12_slotOf_1 ?_
  refine lv_bipush (v := 24) hx hb dX12_slotOf_4 (by decide) ?_
  refine lv_aload_n hx hb dX12_slotOf_6 rfl (lv_at hl 0 rfl) ?_
  refine gf_59_35 hx hb ht hK hI (v := σ 59 35) rfl mw_947 (fun _ h9 => h9) hown dX12_slotOf_7 ?_
  refine lv_imul hx hb dX12_slotOf_10 ?_
  refine lv_iload_n hx hb dX12_slotOf_11 rfl (lv_at hl 1 rfl) ?_
  refine lv_iadd hx hb dX12_slotOf_12 ?_
  obtain ⟨g1, hm⟩ := gb_some hm
  refine ld_80 hx hb hK hI g1 (v := σ 80 (ix ((24 * (σ 59 35)) + p0))) rfl dX12_slotOf_13 ?_
  exact hR _ _ _ _ _ _ hm hI dX12_slotOf_14
def f_X12_registerOf (N n : Nat) (σ : Sg) (p0 : Int32) : Option (Int32 × Sg) := gb ((24 * (σ 59 35)) + p0) 288 (some (σ 79 (ix ((24 * (σ 59 35)) + p0)), σ))
set_option maxHeartbeats 4000000 in
set_option maxRecDepth 100000 in
theorem c_X12_registerOf {l : Launch} {g : GG} {q : Nat} (N n : Nat) {σ : Sg} {p0 : Int32} {r : Int32} {σ' : Sg} (hm : f_X12_registerOf N n σ p0 = some (r, σ')) : CTi l yX12_registerOf cX12_registerOf 2 (some .int) 0 0 g q n [.ref (ga g 59), .int p0] σ r σ' := by
  refine e_i (r := r) (by decide) (Nat.le_of_ble_eq_true rfl) ?_
  intro p e s m args below meth c A Q ls hC hl hI
  obtain ⟨hX, hK, hN, hZ, hA, hR⟩ := id hC
  have hx : p.tables.exec = Jvm.exec := hX.1
  have hb : c.code = cX12_registerOf := hX.2.1
  have hml : c.maxLocals = 2 := hX.2.2.1
  have hown : s.vm.findClass RX12 = some m.cls := hX.2.2.2.1
  have ht : ∀ w ∈ BIG, w.before args s = true := hX.2.2.2.2
  have hl : lv_has ls 2 [(0, .ref (ga g 59)), (1, .int p0)] := hl
  unfold f_X12_registerOf at hm
  refine lv_aload_n hx hb dX12_registerOf_0 rfl (lv_at hl 0 rfl) ?_
  refine gf_59_25 hx hb ht hK hI mw_774 (fun _ h9 => h9) hown dX12_registerOf_1 ?_
  refine lv_bipush (v := 24) hx hb dX12_registerOf_4 (by decide) ?_
  refine lv_aload_n hx hb dX12_registerOf_6 rfl (lv_at hl 0 rfl) ?_
  refine gf_59_35 hx hb ht hK hI (v := σ 59 35) rfl mw_947 (fun _ h9 => h9) hown dX12_registerOf_7 ?_
  refine lv_imul hx hb dX12_registerOf_10 ?_
  refine lv_iload_n hx hb dX12_registerOf_11 rfl (lv_at hl 1 rfl) ?_
  refine lv_iadd hx hb dX12_registerOf_12 ?_
  obtain ⟨g1, hm⟩ := gb_some hm
  refine ld_79 hx hb hK hI g1 (v := σ 79 (ix ((24 * (σ 59 35)) + p0))) rfl dX12_registerOf_13 ?_
  exact hR _ _ _ _ _ _ hm hI dX12_registerOf_14
