def f_X12_works (N n : Nat) (σ : Sg) (p0 : Int32) (p1 : Int32) (p2 : Int32) : Option (Int32 × Sg) := if p0 = 3 then (some (p1 + p2, σ)) else (if p0 = 4 then (some (p1 - p2, σ)) else (if p0 = 5 then (some (p1 * p2, σ)) else (if p0 = 6 then (gdz p2 (some (p1 / p2, σ))) else (if p0 = 7 then (if p2 ≤ p1 then (some (0, σ)) else (some (1, σ))) else (if p1 = p2 then (some (1, σ)) else (some (0, σ)))))))
set_option maxHeartbeats 4000000 in
set_option maxRecDepth 100000 in
theorem c_X12_works {l : Launch} {g : GG} {q : Nat} (N n : Nat) {σ : Sg} {p0 : Int32} {p1 : Int32} {p2 : Int32} {r : Int32} {σ' : Sg} (hm : f_X12_works N n σ p0 p1 p2 = some (r, σ')) : CTi l yX12_works cX12_works 4 (some .int) 0 0 g q n [.ref (ga g 59), .int p0, .int p1, .int p2] σ r σ' := by
  refine e_i (r := r) (by decide) (Nat.le_of_ble_eq_true rfl) ?_
  intro p e s m args below meth c A Q ls hC hl hI
  obtain ⟨hX, hK, hN, hZ, hA, hR⟩ := id hC
  have hx : p.tables.exec = Jvm.exec := hX.1
  have hb : c.code = cX12_works := hX.2.1
  have hml : c.maxLocals = 4 := hX.2.2.1
  have hown : s.vm.findClass RX12 = some m.cls := hX.2.2.2.1
  have ht : ∀ w ∈ BIG, w.before args s = true := hX.2.2.2.2
  have hl : lv_has ls 4 [(0, .ref (ga g 59)), (1, .int p0), (2, .int p1), (3, .int p2)] := hl
  unfold f_X12_works at hm
  refine lv_iload_n hx hb dX12_works_0 rfl (lv_at hl 1 rfl) ?_
  refine lv_iconst (v := 3) hx hb dX12_works_1 (by decide) ?_
  refine lv_icmp_ne (tgt := 11) hx hb dX12_works_2 (by decide) (fun c1 => ?_) (fun c1 => ?_)
  · have hm := (if_neg c1).symm.trans hm
    refine lv_iload_n hx hb dX12_works_11 rfl (lv_at hl 1 rfl) ?_
    refine lv_iconst (v := 4) hx hb dX12_works_12 (by decide) ?_
    refine lv_icmp_ne (tgt := 22) hx hb dX12_works_13 (by decide) (fun c2 => ?_) (fun c2 => ?_)
    · have hm := (if_neg c2).symm.trans hm
      refine lv_iload_n hx hb dX12_works_22 rfl (lv_at hl 1 rfl) ?_
      refine lv_iconst (v := 5) hx hb dX12_works_23 (by decide) ?_
      refine lv_icmp_ne (tgt := 33) hx hb dX12_works_24 (by decide) (fun c3 => ?_) (fun c3 => ?_)
      · have hm := (if_neg c3).symm.trans hm
        refine lv_iload_n hx hb dX12_works_33 rfl (lv_at hl 1 rfl) ?_
        refine lv_bipush (v := 6) hx hb dX12_works_34 (by decide) ?_
        refine lv_icmp_ne (tgt := 45) hx hb dX12_works_36 (by decide) (fun c4 => ?_) (fun c4 => ?_)
        · have hm := (if_neg c4).symm.trans hm
          refine lv_iload_n hx hb dX12_works_45 rfl (lv_at hl 1 rfl) ?_
          refine lv_bipush (v := 7) hx hb dX12_works_46 (by decide) ?_
          refine lv_icmp_ne (tgt := 64) hx hb dX12_works_48 (by decide) (fun c5 => ?_) (fun c5 => ?_)
          · have hm := (if_neg c5).symm.trans hm
            refine lv_iload_n hx hb dX12_works_64 rfl (lv_at hl 2 rfl) ?_
            refine lv_iload_n hx hb dX12_works_65 rfl (lv_at hl 3 rfl) ?_
            refine lv_icmp_ne (tgt := 73) hx hb dX12_works_66 (by decide) (fun c6 => ?_) (fun c6 => ?_)
            · have hm := (if_neg c6).symm.trans hm
              refine lv_iconst (v := 0) hx hb dX12_works_73 (by decide) ?_
              exact hR _ _ _ _ _ _ hm hI dX12_works_74
            · have hm := (if_pos c6).symm.trans hm
              refine lv_iconst (v := 1) hx hb dX12_works_69 (by decide) ?_
              refine lv_goto (tgt := 74) hx hb dX12_works_70 (by decide) ?_
              exact hR _ _ _ _ _ _ hm hI dX12_works_74
          · have hm := (if_pos c5).symm.trans hm
            refine lv_iload_n hx hb dX12_works_51 rfl (lv_at hl 2 rfl) ?_
            refine lv_iload_n hx hb dX12_works_52 rfl (lv_at hl 3 rfl) ?_
            refine lv_icmp_ge (tgt := 60) hx hb dX12_works_53 (by decide) (fun c7 => ?_) (fun c7 => ?_)
            · have hm := (if_pos c7).symm.trans hm
              refine lv_iconst (v := 0) hx hb dX12_works_60 (by decide) ?_
              refine lv_goto (tgt := 74) hx hb dX12_works_61 (by decide) ?_
              exact hR _ _ _ _ _ _ hm hI dX12_works_74
            · have hm := (if_neg c7).symm.trans hm
              refine lv_iconst (v := 1) hx hb dX12_works_56 (by decide) ?_
              refine lv_goto (tgt := 74) hx hb dX12_works_57 (by decide) ?_
              exact hR _ _ _ _ _ _ hm hI dX12_works_74
        · have hm := (if_pos c4).symm.trans hm
          refine lv_iload_n hx hb dX12_works_39 rfl (lv_at hl 2 rfl) ?_
          refine lv_iload_n hx hb dX12_works_40 rfl (lv_at hl 3 rfl) ?_
          obtain ⟨g8, hm⟩ := gdz_some hm
          refine lv_idiv hx hb dX12_works_41 g8 ?_
          refine lv_goto (tgt := 74) hx hb dX12_works_42 (by decide) ?_
          exact hR _ _ _ _ _ _ hm hI dX12_works_74
      · have hm := (if_pos c3).symm.trans hm
        refine lv_iload_n hx hb dX12_works_27 rfl (lv_at hl 2 rfl) ?_
        refine lv_iload_n hx hb dX12_works_28 rfl (lv_at hl 3 rfl) ?_
        refine lv_imul hx hb dX12_works_29 ?_
        refine lv_goto (tgt := 74) hx hb dX12_works_30 (by decide) ?_
        exact hR _ _ _ _ _ _ hm hI dX12_works_74
    · have hm := (if_pos c2).symm.trans hm
      refine lv_iload_n hx hb dX12_works_16 rfl (lv_at hl 2 rfl) ?_
      refine lv_iload_n hx hb dX12_works_17 rfl (lv_at hl 3 rfl) ?_
      refine lv_isub hx hb dX12_works_18 ?_
      refine lv_goto (tgt := 74) hx hb dX12_works_19 (by decide) ?_
      exact hR _ _ _ _ _ _ hm hI dX12_works_74
  · have hm := (if_pos c1).symm.trans hm
    refine lv_iload_n hx hb dX12_works_5 rfl (lv_at hl 2 rfl) ?_
    refine lv_iload_n hx hb dX12_works_6 rfl (lv_at hl 3 rfl) ?_
    refine lv_iadd hx hb dX12_works_7 ?_
    refine lv_goto (tgt := 74) hx hb dX12_works_8 (by decide) ?_
    exact hR _ _ _ _ _ _ hm hI dX12_works_74
def f_X12_stepCall (N n : Nat) (σ : Sg) (p0 : Int32) (p1 : Int32) (p2 : Int32) (p3 : Int32) : Option (Int32 × Sg) := if p0 = 9 then (gb ((24 * p3) + p2) 1440 (gb ((24 * p3) + p1) 1440 (some (0, sg σ 96 (ix ((24 * p3) + p1)) (σ 98 (ix ((24 * p3) + p2))))))) else (if p0 = 10 then (gb ((24 * p3) + p2) 1440 (gb ((24 * p3) + p1) 1440 (some (0, sg σ 98 (ix ((24 * p3) + p1)) (σ 96 (ix ((24 * p3) + p2))))))) else (if p0 = 11 then (gb ((7 * p3) + p2) 420 (gb ((24 * p3) + p1) 1440 (some (0, sg σ 96 (ix ((24 * p3) + p1)) (σ 99 (ix ((7 * p3) + p2))))))) else (if p0 = 12 then (gb ((24 * p3) + p2) 1440 (gb (6 + p1) 12 (some (0, sg σ 100 (ix (6 + p1)) (σ 96 (ix ((24 * p3) + p2))))))) else (if p0 = 14 then (gb 1 2 (gb ((24 * p3) + p1) 1440 (some (0, sg σ 96 (ix ((24 * p3) + p1)) (σ 101 (ix 1)))))) else (gb 1 2 (if (σ 93 (ix 1)) = 30 then (bd (f_X12_ends N n σ 1 4) (fun r11 σ12 => some (0, σ12))) else (bd (f_X12_enters N n σ 1 p1) (fun r8 σ9 => some (0, σ9)))))))))
set_option maxHeartbeats 4000000 in
set_option maxRecDepth 100000 in
theorem c_X12_stepCall {l : Launch} {g : GG} {q : Nat} (N n : Nat) {σ : Sg} {p0 : Int32} {p1 : Int32} {p2 : Int32} {p3 : Int32} {r : Int32} {σ' : Sg} (hm : f_X12_stepCall N n σ p0 p1 p2 p3 = some (r, σ')) : CTv l yX12_stepCall cX12_stepCall 6 none 1 24 g q n [.ref (ga g 59), .int p0, .int p1, .int p2, .int p3] σ σ' := by
  refine e_v (r := r) (by decide) (Nat.le_of_ble_eq_true rfl) ?_
  intro p e s m args below meth c A Q ls hC hl hI
  obtain ⟨hX, hK, hN, hZ, hA, hR⟩ := id hC
  have hx : p.tables.exec = Jvm.exec := hX.1
  have hb : c.code = cX12_stepCall := hX.2.1
  have hml : c.maxLocals = 6 := hX.2.2.1
  have hown : s.vm.findClass RX12 = some m.cls := hX.2.2.2.1
  have ht : ∀ w ∈ BIG, w.before args s = true := hX.2.2.2.2
  have hl : lv_has ls 6 [(0, .ref (ga g 59)), (1, .int p0), (2, .int p1), (3, .int p2), (4, .int p3)] := hl
  unfold f_X12_stepCall at hm
  refine lv_bipush (v := 24) hx hb dX12_stepCall_0 (by decide) ?_
  refine lv_iload hx hb dX12_stepCall_2 (lv_at hl 4 rfl) ?_
  refine lv_imul hx hb dX12_stepCall_4 ?_
  refine lv_istore (lv' := [(5, .int (24 * p3)), (0, .ref (ga g 59)), (1, .int p0), (2, .int p1), (3, .int p2), (4, .int p3)]) hx hb dX12_stepCall_5 hl (by decide) rfl (fun ls hl => ?_)
  refine lv_iload_n hx hb dX12_stepCall_7 rfl (lv_at hl 2 rfl) ?_
  refine lv_bipush (v := 9) hx hb dX12_stepCall_8 (by decide) ?_
  refine lv_icmp_ne (tgt := 34) hx hb dX12_stepCall_10 (by decide) (fun c1 => ?_) (fun c1 => ?_)
  · have hm := (if_neg c1).symm.trans hm
    refine lv_iload_n hx hb dX12_stepCall_34 rfl (lv_at hl 2 rfl) ?_
    refine lv_bipush (v := 10) hx hb dX12_stepCall_35 (by decide) ?_
    refine lv_icmp_ne (tgt := 61) hx hb dX12_stepCall_37 (by decide) (fun c2 => ?_) (fun c2 => ?_)
    · have hm := (if_neg c2).symm.trans hm
      refine lv_iload_n hx hb dX12_stepCall_61 rfl (lv_at hl 2 rfl) ?_
      refine lv_bipush (v := 11) hx hb dX12_stepCall_62 (by decide) ?_
      refine lv_icmp_ne (tgt := 91) hx hb dX12_stepCall_64 (by decide) (fun c3 => ?_) (fun c3 => ?_)
      · have hm := (if_neg c3).symm.trans hm
        refine lv_iload_n hx hb dX12_stepCall_91 rfl (lv_at hl 2 rfl) ?_
        refine lv_bipush (v := 12) hx hb dX12_stepCall_92 (by decide) ?_
        refine lv_icmp_ne (tgt := 118) hx hb dX12_stepCall_94 (by decide) (fun c4 => ?_) (fun c4 => ?_)
        · have hm := (if_neg c4).symm.trans hm
          refine lv_iload_n hx hb dX12_stepCall_118 rfl (lv_at hl 2 rfl) ?_
          refine lv_bipush (v := 14) hx hb dX12_stepCall_119 (by decide) ?_
          refine lv_icmp_ne (tgt := 142) hx hb dX12_stepCall_121 (by decide) (fun c5 => ?_) (fun c5 => ?_)
          · have hm := (if_neg c5).symm.trans hm
            refine lv_aload_n hx hb dX12_stepCall_142 rfl (lv_at hl 1 rfl) ?_
            refine gf_59_43 hx hb ht hK hI mw_788 (fun _ h9 => h9) hown dX12_stepCall_143 ?_
            refine lv_iconst (v := 1) hx hb dX12_stepCall_146 (by decide) ?_
            obtain ⟨g6, hm⟩ := gb_some hm
            refine ld_93 hx hb hK hI g6 (v := σ 93 (ix 1)) rfl dX12_stepCall_147 ?_
            refine lv_bipush (v := 30) hx hb dX12_stepCall_148 (by decide) ?_
            refine lv_icmp_ne (tgt := 162) hx hb dX12_stepCall_150 (by decide) (fun c7 => ?_) (fun c7 => ?_)
            · have hm := (if_neg c7).symm.trans hm
              refine lv_aload_n hx hb dX12_stepCall_162 rfl (lv_at hl 1 rfl) ?_
              refine lv_iconst (v := 1) hx hb dX12_stepCall_163 (by decide) ?_
              refine lv_iload_n hx hb dX12_stepCall_164 rfl (lv_at hl 3 rfl) ?_
              obtain ⟨r8, σ9, h10, hm⟩ := bd_some hm
              refine k_v hI hA (va_runV (As := [.int 1, .int p1]) (rest := []) hX (c_X12_enters N n h10 _) (cwV 2 ht (in_V mw_1024 mw_1025 mw_1026 mw_861 mw_1008) rfl rfl rfl pd_X12_enters ⟨Nat.le_of_ble_eq_true rfl, Nat.le_of_ble_eq_true rfl⟩) ⟨q_blind, va_recv hK hI.1 (ci := 11) (q0 := 59) rfl rfl, q_to hI hK hN hZ hA⟩ rfl rfl hl.1 rfl (lv_room (Nat.le_of_ble_eq_true rfl)) dX12_stepCall_165 (by decide)) (fun H locs hI => ?_)
              exact hR _ _ _ _ _ hm hI dX12_stepCall_168
            · have hm := (if_pos c7).symm.trans hm
              refine lv_aload_n hx hb dX12_stepCall_153 rfl (lv_at hl 1 rfl) ?_
              refine lv_iconst (v := 1) hx hb dX12_stepCall_154 (by decide) ?_
              refine lv_iconst (v := 4) hx hb dX12_stepCall_155 (by decide) ?_
              obtain ⟨r11, σ12, h13, hm⟩ := bd_some hm
              refine k_v hI hA (va_runV (As := [.int 1, .int 4]) (rest := []) hX (c_X12_ends N n h13 _) (cwV 2 ht (in_V mw_1012 mw_1013 mw_1014 mw_861 mw_1009) rfl rfl rfl pd_X12_ends ⟨Nat.le_of_ble_eq_true rfl, Nat.le_of_ble_eq_true rfl⟩) ⟨q_blind, va_recv hK hI.1 (ci := 11) (q0 := 59) rfl rfl, q_to hI hK hN hZ hA⟩ rfl rfl hl.1 rfl (lv_room (Nat.le_of_ble_eq_true rfl)) dX12_stepCall_156 (by decide)) (fun H locs hI => ?_)
              refine lv_goto (tgt := 168) hx hb dX12_stepCall_159 (by decide) ?_
              exact hR _ _ _ _ _ hm hI dX12_stepCall_168
          · have hm := (if_pos c5).symm.trans hm
            refine lv_aload_n hx hb dX12_stepCall_124 rfl (lv_at hl 1 rfl) ?_
            refine gf_59_46 hx hb ht hK hI mw_791 (fun _ h9 => h9) hown dX12_stepCall_125 ?_
            refine lv_iload hx hb dX12_stepCall_128 (lv_at hl 0 rfl) ?_
            refine lv_iload_n hx hb dX12_stepCall_130 rfl (lv_at hl 3 rfl) ?_
            refine lv_iadd hx hb dX12_stepCall_131 ?_
            refine lv_aload_n hx hb dX12_stepCall_132 rfl (lv_at hl 1 rfl) ?_
            refine gf_59_51 hx hb ht hK hI mw_796 (fun _ h9 => h9) hown dX12_stepCall_133 ?_
            refine lv_iconst (v := 1) hx hb dX12_stepCall_136 (by decide) ?_
            obtain ⟨g14, hm⟩ := gb_some hm
            refine ld_101 hx hb hK hI g14 (v := σ 101 (ix 1)) rfl dX12_stepCall_137 ?_
            obtain ⟨g15, hm⟩ := gb_some hm
            refine sv_96 hx hb hK hI g15 dX12_stepCall_138 (fun H locs hI => ?_)
            refine lv_goto (tgt := 168) hx hb dX12_stepCall_139 (by decide) ?_
            exact hR _ _ _ _ _ hm hI dX12_stepCall_168
        · have hm := (if_pos c4).symm.trans hm
          refine lv_aload_n hx hb dX12_stepCall_97 rfl (lv_at hl 1 rfl) ?_
          refine gf_59_50 hx hb ht hK hI mw_795 (fun _ h9 => h9) hown dX12_stepCall_98 ?_
          refine lv_bipush (v := 6) hx hb dX12_stepCall_101 (by decide) ?_
          refine lv_iload_n hx hb dX12_stepCall_103 rfl (lv_at hl 3 rfl) ?_
          refine lv_iadd hx hb dX12_stepCall_104 ?_
          refine lv_aload_n hx hb dX12_stepCall_105 rfl (lv_at hl 1 rfl) ?_
          refine gf_59_46 hx hb ht hK hI mw_791 (fun _ h9 => h9) hown dX12_stepCall_106 ?_
          refine lv_iload hx hb dX12_stepCall_109 (lv_at hl 0 rfl) ?_
          refine lv_iload_n hx hb dX12_stepCall_111 rfl (lv_at hl 4 rfl) ?_
          refine lv_iadd hx hb dX12_stepCall_112 ?_
          obtain ⟨g16, hm⟩ := gb_some hm
          refine ld_96 hx hb hK hI g16 (v := σ 96 (ix ((24 * p3) + p2))) rfl dX12_stepCall_113 ?_
          obtain ⟨g17, hm⟩ := gb_some hm
          refine sv_100 hx hb hK hI g17 dX12_stepCall_114 (fun H locs hI => ?_)
          refine lv_goto (tgt := 168) hx hb dX12_stepCall_115 (by decide) ?_
          exact hR _ _ _ _ _ hm hI dX12_stepCall_168
      · have hm := (if_pos c3).symm.trans hm
        refine lv_aload_n hx hb dX12_stepCall_67 rfl (lv_at hl 1 rfl) ?_
        refine gf_59_46 hx hb ht hK hI mw_791 (fun _ h9 => h9) hown dX12_stepCall_68 ?_
        refine lv_iload hx hb dX12_stepCall_71 (lv_at hl 0 rfl) ?_
        refine lv_iload_n hx hb dX12_stepCall_73 rfl (lv_at hl 3 rfl) ?_
        refine lv_iadd hx hb dX12_stepCall_74 ?_
        refine lv_aload_n hx hb dX12_stepCall_75 rfl (lv_at hl 1 rfl) ?_
        refine gf_59_49 hx hb ht hK hI mw_794 (fun _ h9 => h9) hown dX12_stepCall_76 ?_
        refine lv_bipush (v := 7) hx hb dX12_stepCall_79 (by decide) ?_
        refine lv_iload hx hb dX12_stepCall_81 (lv_at hl 5 rfl) ?_
        refine lv_imul hx hb dX12_stepCall_83 ?_
        refine lv_iload_n hx hb dX12_stepCall_84 rfl (lv_at hl 4 rfl) ?_
        refine lv_iadd hx hb dX12_stepCall_85 ?_
        obtain ⟨g18, hm⟩ := gb_some hm
        refine ld_99 hx hb hK hI g18 (v := σ 99 (ix ((7 * p3) + p2))) rfl dX12_stepCall_86 ?_
        obtain ⟨g19, hm⟩ := gb_some hm
        refine sv_96 hx hb hK hI g19 dX12_stepCall_87 (fun H locs hI => ?_)
        refine lv_goto (tgt := 168) hx hb dX12_stepCall_88 (by decide) ?_
        exact hR _ _ _ _ _ hm hI dX12_stepCall_168
    · have hm := (if_pos c2).symm.trans hm
      refine lv_aload_n hx hb dX12_stepCall_40 rfl (lv_at hl 1 rfl) ?_
      refine gf_59_48 hx hb ht hK hI mw_793 (fun _ h9 => h9) hown dX12_stepCall_41 ?_
      refine lv_iload hx hb dX12_stepCall_44 (lv_at hl 0 rfl) ?_
      refine lv_iload_n hx hb dX12_stepCall_46 rfl (lv_at hl 3 rfl) ?_
      refine lv_iadd hx hb dX12_stepCall_47 ?_
      refine lv_aload_n hx hb dX12_stepCall_48 rfl (lv_at hl 1 rfl) ?_
      refine gf_59_46 hx hb ht hK hI mw_791 (fun _ h9 => h9) hown dX12_stepCall_49 ?_
      refine lv_iload hx hb dX12_stepCall_52 (lv_at hl 0 rfl) ?_
      refine lv_iload_n hx hb dX12_stepCall_54 rfl (lv_at hl 4 rfl) ?_
      refine lv_iadd hx hb dX12_stepCall_55 ?_
      obtain ⟨g20, hm⟩ := gb_some hm
      refine ld_96 hx hb hK hI g20 (v := σ 96 (ix ((24 * p3) + p2))) rfl dX12_stepCall_56 ?_
      obtain ⟨g21, hm⟩ := gb_some hm
      refine sv_98 hx hb hK hI g21 dX12_stepCall_57 (fun H locs hI => ?_)
      refine lv_goto (tgt := 168) hx hb dX12_stepCall_58 (by decide) ?_
      exact hR _ _ _ _ _ hm hI dX12_stepCall_168
  · have hm := (if_pos c1).symm.trans hm
    refine lv_aload_n hx hb dX12_stepCall_13 rfl (lv_at hl 1 rfl) ?_
    refine gf_59_46 hx hb ht hK hI mw_791 (fun _ h9 => h9) hown dX12_stepCall_14 ?_
    refine lv_iload hx hb dX12_stepCall_17 (lv_at hl 0 rfl) ?_
    refine lv_iload_n hx hb dX12_stepCall_19 rfl (lv_at hl 3 rfl) ?_
    refine lv_iadd hx hb dX12_stepCall_20 ?_
    refine lv_aload_n hx hb dX12_stepCall_21 rfl (lv_at hl 1 rfl) ?_
    refine gf_59_48 hx hb ht hK hI mw_793 (fun _ h9 => h9) hown dX12_stepCall_22 ?_
    refine lv_iload hx hb dX12_stepCall_25 (lv_at hl 0 rfl) ?_
    refine lv_iload_n hx hb dX12_stepCall_27 rfl (lv_at hl 4 rfl) ?_
    refine lv_iadd hx hb dX12_stepCall_28 ?_
    obtain ⟨g22, hm⟩ := gb_some hm
    refine ld_98 hx hb hK hI g22 (v := σ 98 (ix ((24 * p3) + p2))) rfl dX12_stepCall_29 ?_
    obtain ⟨g23, hm⟩ := gb_some hm
    refine sv_96 hx hb hK hI g23 dX12_stepCall_30 (fun H locs hI => ?_)
    refine lv_goto (tgt := 168) hx hb dX12_stepCall_31 (by decide) ?_
    exact hR _ _ _ _ _ hm hI dX12_stepCall_168
def f_X12_stepRegisters (N n : Nat) (σ : Sg)  : Option (Int32 × Sg) := gb 1 2 (if (σ 93 (ix 1)) = 0 then (bd (f_X12_enters N n σ 1 0) (fun r88 σ89 => gb 1 2 (gb ((30 + (σ89 93 (ix 1))) - 1) 60 (gb (σ89 94 (ix ((30 + (σ89 93 (ix 1))) - 1))) 12 (gb ((30 + (σ89 93 (ix 1))) - 1) 60 (gb ((5 * ((σ89 85 (ix (σ89 94 (ix ((30 + (σ89 93 (ix 1))) - 1))))) + (σ89 95 (ix ((30 + (σ89 93 (ix 1))) - 1))))) + 1) 10000 (gb ((5 * ((σ89 85 (ix (σ89 94 (ix ((30 + (σ89 93 (ix 1))) - 1))))) + (σ89 95 (ix ((30 + (σ89 93 (ix 1))) - 1))))) + 2) 10000 (gb ((5 * ((σ89 85 (ix (σ89 94 (ix ((30 + (σ89 93 (ix 1))) - 1))))) + (σ89 95 (ix ((30 + (σ89 93 (ix 1))) - 1))))) + 3) 10000 (gb ((30 + (σ89 93 (ix 1))) - 1) 60 (gb ((30 + (σ89 93 (ix 1))) - 1) 60 (gb 1 2 (gb 1 2 (gb (5 * ((σ89 85 (ix (σ89 94 (ix ((30 + (σ89 93 (ix 1))) - 1))))) + (σ89 95 (ix ((30 + (σ89 93 (ix 1))) - 1))))) 10000 (if (σ89 84 (ix (5 * ((σ89 85 (ix (σ89 94 (ix ((30 + (σ89 93 (ix 1))) - 1))))) + (σ89 95 (ix ((30 + (σ89 93 (ix 1))) - 1))))))) = 0 then (gb ((24 * ((30 + (σ89 93 (ix 1))) - 1)) + (σ89 84 (ix ((5 * ((σ89 85 (ix (σ89 94 (ix ((30 + (σ89 93 (ix 1))) - 1))))) + (σ89 95 (ix ((30 + (σ89 93 (ix 1))) - 1))))) + 1)))) 1440 (some (0, sg (sg (sg σ89 95 (ix ((30 + (σ89 93 (ix 1))) - 1)) ((σ89 95 (ix ((30 + (σ89 93 (ix 1))) - 1))) + 1)) 91 (ix 1) ((σ89 91 (ix 1)) + 1)) 96 (ix ((24 * ((30 + (σ89 93 (ix 1))) - 1)) + (σ89 84 (ix ((5 * ((σ89 85 (ix (σ89 94 (ix ((30 + (σ89 93 (ix 1))) - 1))))) + (σ89 95 (ix ((30 + (σ89 93 (ix 1))) - 1))))) + 1))))) (σ89 84 (ix ((5 * ((σ89 85 (ix (σ89 94 (ix ((30 + (σ89 93 (ix 1))) - 1))))) + (σ89 95 (ix ((30 + (σ89 93 (ix 1))) - 1))))) + 2)))))) else (if (σ89 84 (ix (5 * ((σ89 85 (ix (σ89 94 (ix ((30 + (σ89 93 (ix 1))) - 1))))) + (σ89 95 (ix ((30 + (σ89 93 (ix 1))) - 1))))))) = 1 then (gb ((24 * ((30 + (σ89 93 (ix 1))) - 1)) + (σ89 84 (ix ((5 * ((σ89 85 (ix (σ89 94 (ix ((30 + (σ89 93 (ix 1))) - 1))))) + (σ89 95 (ix ((30 + (σ89 93 (ix 1))) - 1))))) + 2)))) 1440 (gb ((24 * ((30 + (σ89 93 (ix 1))) - 1)) + (σ89 84 (ix ((5 * ((σ89 85 (ix (σ89 94 (ix ((30 + (σ89 93 (ix 1))) - 1))))) + (σ89 95 (ix ((30 + (σ89 93 (ix 1))) - 1))))) + 1)))) 1440 (some (0, sg (sg (sg σ89 95 (ix ((30 + (σ89 93 (ix 1))) - 1)) ((σ89 95 (ix ((30 + (σ89 93 (ix 1))) - 1))) + 1)) 91 (ix 1) ((σ89 91 (ix 1)) + 1)) 96 (ix ((24 * ((30 + (σ89 93 (ix 1))) - 1)) + (σ89 84 (ix ((5 * ((σ89 85 (ix (σ89 94 (ix ((30 + (σ89 93 (ix 1))) - 1))))) + (σ89 95 (ix ((30 + (σ89 93 (ix 1))) - 1))))) + 1))))) (σ89 96 (ix ((24 * ((30 + (σ89 93 (ix 1))) - 1)) + (σ89 84 (ix ((5 * ((σ89 85 (ix (σ89 94 (ix ((30 + (σ89 93 (ix 1))) - 1))))) + (σ89 95 (ix ((30 + (σ89 93 (ix 1))) - 1))))) + 2)))))))))) else (if (σ89 84 (ix (5 * ((σ89 85 (ix (σ89 94 (ix ((30 + (σ89 93 (ix 1))) - 1))))) + (σ89 95 (ix ((30 + (σ89 93 (ix 1))) - 1))))))) = 2 then (gb ((5 * ((σ89 85 (ix (σ89 94 (ix ((30 + (σ89 93 (ix 1))) - 1))))) + (σ89 95 (ix ((30 + (σ89 93 (ix 1))) - 1))))) + 4) 10000 (if (σ89 84 (ix ((5 * ((σ89 85 (ix (σ89 94 (ix ((30 + (σ89 93 (ix 1))) - 1))))) + (σ89 95 (ix ((30 + (σ89 93 (ix 1))) - 1))))) + 4))) = 6 then (gb ((24 * ((30 + (σ89 93 (ix 1))) - 1)) + (σ89 84 (ix ((5 * ((σ89 85 (ix (σ89 94 (ix ((30 + (σ89 93 (ix 1))) - 1))))) + (σ89 95 (ix ((30 + (σ89 93 (ix 1))) - 1))))) + 3)))) 1440 (if (σ89 96 (ix ((24 * ((30 + (σ89 93 (ix 1))) - 1)) + (σ89 84 (ix ((5 * ((σ89 85 (ix (σ89 94 (ix ((30 + (σ89 93 (ix 1))) - 1))))) + (σ89 95 (ix ((30 + (σ89 93 (ix 1))) - 1))))) + 3)))))) = 0 then (bd (f_X12_ends N n (sg (sg σ89 95 (ix ((30 + (σ89 93 (ix 1))) - 1)) ((σ89 95 (ix ((30 + (σ89 93 (ix 1))) - 1))) + 1)) 91 (ix 1) ((σ89 91 (ix 1)) + 1)) 1 2) (fun r127 σ128 => some (0, σ128))) else (gb ((5 * ((σ89 85 (ix (σ89 94 (ix ((30 + (σ89 93 (ix 1))) - 1))))) + (σ89 95 (ix ((30 + (σ89 93 (ix 1))) - 1))))) + 4) 10000 (gb ((24 * ((30 + (σ89 93 (ix 1))) - 1)) + (σ89 84 (ix ((5 * ((σ89 85 (ix (σ89 94 (ix ((30 + (σ89 93 (ix 1))) - 1))))) + (σ89 95 (ix ((30 + (σ89 93 (ix 1))) - 1))))) + 2)))) 1440 (gb ((24 * ((30 + (σ89 93 (ix 1))) - 1)) + (σ89 84 (ix ((5 * ((σ89 85 (ix (σ89 94 (ix ((30 + (σ89 93 (ix 1))) - 1))))) + (σ89 95 (ix ((30 + (σ89 93 (ix 1))) - 1))))) + 3)))) 1440 (bd (f_X12_works N n (sg (sg σ89 95 (ix ((30 + (σ89 93 (ix 1))) - 1)) ((σ89 95 (ix ((30 + (σ89 93 (ix 1))) - 1))) + 1)) 91 (ix 1) ((σ89 91 (ix 1)) + 1)) (σ89 84 (ix ((5 * ((σ89 85 (ix (σ89 94 (ix ((30 + (σ89 93 (ix 1))) - 1))))) + (σ89 95 (ix ((30 + (σ89 93 (ix 1))) - 1))))) + 4))) (σ89 96 (ix ((24 * ((30 + (σ89 93 (ix 1))) - 1)) + (σ89 84 (ix ((5 * ((σ89 85 (ix (σ89 94 (ix ((30 + (σ89 93 (ix 1))) - 1))))) + (σ89 95 (ix ((30 + (σ89 93 (ix 1))) - 1))))) + 2)))))) (σ89 96 (ix ((24 * ((30 + (σ89 93 (ix 1))) - 1)) + (σ89 84 (ix ((5 * ((σ89 85 (ix (σ89 94 (ix ((30 + (σ89 93 (ix 1))) - 1))))) + (σ89 95 (ix ((30 + (σ89 93 (ix 1))) - 1))))) + 3))))))) (fun r123 σ124 => gb ((24 * ((30 + (σ89 93 (ix 1))) - 1)) + (σ89 84 (ix ((5 * ((σ89 85 (ix (σ89 94 (ix ((30 + (σ89 93 (ix 1))) - 1))))) + (σ89 95 (ix ((30 + (σ89 93 (ix 1))) - 1))))) + 1)))) 1440 (some (0, sg σ124 96 (ix ((24 * ((30 + (σ89 93 (ix 1))) - 1)) + (σ89 84 (ix ((5 * ((σ89 85 (ix (σ89 94 (ix ((30 + (σ89 93 (ix 1))) - 1))))) + (σ89 95 (ix ((30 + (σ89 93 (ix 1))) - 1))))) + 1))))) r123))))))))) else (gb ((5 * ((σ89 85 (ix (σ89 94 (ix ((30 + (σ89 93 (ix 1))) - 1))))) + (σ89 95 (ix ((30 + (σ89 93 (ix 1))) - 1))))) + 4) 10000 (gb ((24 * ((30 + (σ89 93 (ix 1))) - 1)) + (σ89 84 (ix ((5 * ((σ89 85 (ix (σ89 94 (ix ((30 + (σ89 93 (ix 1))) - 1))))) + (σ89 95 (ix ((30 + (σ89 93 (ix 1))) - 1))))) + 2)))) 1440 (gb ((24 * ((30 + (σ89 93 (ix 1))) - 1)) + (σ89 84 (ix ((5 * ((σ89 85 (ix (σ89 94 (ix ((30 + (σ89 93 (ix 1))) - 1))))) + (σ89 95 (ix ((30 + (σ89 93 (ix 1))) - 1))))) + 3)))) 1440 (bd (f_X12_works N n (sg (sg σ89 95 (ix ((30 + (σ89 93 (ix 1))) - 1)) ((σ89 95 (ix ((30 + (σ89 93 (ix 1))) - 1))) + 1)) 91 (ix 1) ((σ89 91 (ix 1)) + 1)) (σ89 84 (ix ((5 * ((σ89 85 (ix (σ89 94 (ix ((30 + (σ89 93 (ix 1))) - 1))))) + (σ89 95 (ix ((30 + (σ89 93 (ix 1))) - 1))))) + 4))) (σ89 96 (ix ((24 * ((30 + (σ89 93 (ix 1))) - 1)) + (σ89 84 (ix ((5 * ((σ89 85 (ix (σ89 94 (ix ((30 + (σ89 93 (ix 1))) - 1))))) + (σ89 95 (ix ((30 + (σ89 93 (ix 1))) - 1))))) + 2)))))) (σ89 96 (ix ((24 * ((30 + (σ89 93 (ix 1))) - 1)) + (σ89 84 (ix ((5 * ((σ89 85 (ix (σ89 94 (ix ((30 + (σ89 93 (ix 1))) - 1))))) + (σ89 95 (ix ((30 + (σ89 93 (ix 1))) - 1))))) + 3))))))) (fun r114 σ115 => gb ((24 * ((30 + (σ89 93 (ix 1))) - 1)) + (σ89 84 (ix ((5 * ((σ89 85 (ix (σ89 94 (ix ((30 + (σ89 93 (ix 1))) - 1))))) + (σ89 95 (ix ((30 + (σ89 93 (ix 1))) - 1))))) + 1)))) 1440 (some (0, sg σ115 96 (ix ((24 * ((30 + (σ89 93 (ix 1))) - 1)) + (σ89 84 (ix ((5 * ((σ89 85 (ix (σ89 94 (ix ((30 + (σ89 93 (ix 1))) - 1))))) + (σ89 95 (ix ((30 + (σ89 93 (ix 1))) - 1))))) + 1))))) r114))))))))) else (if (σ89 84 (ix (5 * ((σ89 85 (ix (σ89 94 (ix ((30 + (σ89 93 (ix 1))) - 1))))) + (σ89 95 (ix ((30 + (σ89 93 (ix 1))) - 1))))))) = 3 then (gb ((24 * ((30 + (σ89 93 (ix 1))) - 1)) + (σ89 84 (ix ((5 * ((σ89 85 (ix (σ89 94 (ix ((30 + (σ89 93 (ix 1))) - 1))))) + (σ89 95 (ix ((30 + (σ89 93 (ix 1))) - 1))))) + 1)))) 1440 (gb ((24 * ((30 + (σ89 93 (ix 1))) - 1)) + (σ89 84 (ix ((5 * ((σ89 85 (ix (σ89 94 (ix ((30 + (σ89 93 (ix 1))) - 1))))) + (σ89 95 (ix ((30 + (σ89 93 (ix 1))) - 1))))) + 2)))) 1440 (gb ((24 * ((30 + (σ89 93 (ix 1))) - 1)) + (σ89 84 (ix ((5 * ((σ89 85 (ix (σ89 94 (ix ((30 + (σ89 93 (ix 1))) - 1))))) + (σ89 95 (ix ((30 + (σ89 93 (ix 1))) - 1))))) + 1)))) 1440 (gb ((24 * ((30 + (σ89 93 (ix 1))) - 1)) + (σ89 84 (ix ((5 * ((σ89 85 (ix (σ89 94 (ix ((30 + (σ89 93 (ix 1))) - 1))))) + (σ89 95 (ix ((30 + (σ89 93 (ix 1))) - 1))))) + 2)))) 1440 (some (0, sg (sg (sg (sg σ89 95 (ix ((30 + (σ89 93 (ix 1))) - 1)) ((σ89 95 (ix ((30 + (σ89 93 (ix 1))) - 1))) + 1)) 91 (ix 1) ((σ89 91 (ix 1)) + 1)) 96 (ix ((24 * ((30 + (σ89 93 (ix 1))) - 1)) + (σ89 84 (ix ((5 * ((σ89 85 (ix (σ89 94 (ix ((30 + (σ89 93 (ix 1))) - 1))))) + (σ89 95 (ix ((30 + (σ89 93 (ix 1))) - 1))))) + 1))))) (σ89 96 (ix ((24 * ((30 + (σ89 93 (ix 1))) - 1)) + (σ89 84 (ix ((5 * ((σ89 85 (ix (σ89 94 (ix ((30 + (σ89 93 (ix 1))) - 1))))) + (σ89 95 (ix ((30 + (σ89 93 (ix 1))) - 1))))) + 2))))))) 96 (ix ((24 * ((30 + (σ89 93 (ix 1))) - 1)) + (σ89 84 (ix ((5 * ((σ89 85 (ix (σ89 94 (ix ((30 + (σ89 93 (ix 1))) - 1))))) + (σ89 95 (ix ((30 + (σ89 93 (ix 1))) - 1))))) + 2))))) (σ89 96 (ix ((24 * ((30 + (σ89 93 (ix 1))) - 1)) + (σ89 84 (ix ((5 * ((σ89 85 (ix (σ89 94 (ix ((30 + (σ89 93 (ix 1))) - 1))))) + (σ89 95 (ix ((30 + (σ89 93 (ix 1))) - 1))))) + 1)))))))))))) else (if (σ89 84 (ix (5 * ((σ89 85 (ix (σ89 94 (ix ((30 + (σ89 93 (ix 1))) - 1))))) + (σ89 95 (ix ((30 + (σ89 93 (ix 1))) - 1))))))) = 4 then (gb ((30 + (σ89 93 (ix 1))) - 1) 60 (some (0, sg (sg (sg σ89 95 (ix ((30 + (σ89 93 (ix 1))) - 1)) ((σ89 95 (ix ((30 + (σ89 93 (ix 1))) - 1))) + 1)) 91 (ix 1) ((σ89 91 (ix 1)) + 1)) 95 (ix ((30 + (σ89 93 (ix 1))) - 1)) (σ89 84 (ix ((5 * ((σ89 85 (ix (σ89 94 (ix ((30 + (σ89 93 (ix 1))) - 1))))) + (σ89 95 (ix ((30 + (σ89 93 (ix 1))) - 1))))) + 1)))))) else (if (σ89 84 (ix (5 * ((σ89 85 (ix (σ89 94 (ix ((30 + (σ89 93 (ix 1))) - 1))))) + (σ89 95 (ix ((30 + (σ89 93 (ix 1))) - 1))))))) = 5 then (gb ((24 * ((30 + (σ89 93 (ix 1))) - 1)) + (σ89 84 (ix ((5 * ((σ89 85 (ix (σ89 94 (ix ((30 + (σ89 93 (ix 1))) - 1))))) + (σ89 95 (ix ((30 + (σ89 93 (ix 1))) - 1))))) + 1)))) 1440 (if (σ89 96 (ix ((24 * ((30 + (σ89 93 (ix 1))) - 1)) + (σ89 84 (ix ((5 * ((σ89 85 (ix (σ89 94 (ix ((30 + (σ89 93 (ix 1))) - 1))))) + (σ89 95 (ix ((30 + (σ89 93 (ix 1))) - 1))))) + 1)))))) = 0 then (gb ((30 + (σ89 93 (ix 1))) - 1) 60 (some (0, sg (sg (sg σ89 95 (ix ((30 + (σ89 93 (ix 1))) - 1)) ((σ89 95 (ix ((30 + (σ89 93 (ix 1))) - 1))) + 1)) 91 (ix 1) ((σ89 91 (ix 1)) + 1)) 95 (ix ((30 + (σ89 93 (ix 1))) - 1)) (σ89 84 (ix ((5 * ((σ89 85 (ix (σ89 94 (ix ((30 + (σ89 93 (ix 1))) - 1))))) + (σ89 95 (ix ((30 + (σ89 93 (ix 1))) - 1))))) + 2)))))) else (gb ((30 + (σ89 93 (ix 1))) - 1) 60 (gb ((30 + (σ89 93 (ix 1))) - 1) 60 (some (0, sg (sg (sg σ89 95 (ix ((30 + (σ89 93 (ix 1))) - 1)) ((σ89 95 (ix ((30 + (σ89 93 (ix 1))) - 1))) + 1)) 91 (ix 1) ((σ89 91 (ix 1)) + 1)) 95 (ix ((30 + (σ89 93 (ix 1))) - 1)) ((σ89 95 (ix ((30 + (σ89 93 (ix 1))) - 1))) + 1))))))) else (if (σ89 84 (ix (5 * ((σ89 85 (ix (σ89 94 (ix ((30 + (σ89 93 (ix 1))) - 1))))) + (σ89 95 (ix ((30 + (σ89 93 (ix 1))) - 1))))))) = 6 then (gb ((24 * ((30 + (σ89 93 (ix 1))) - 1)) + (σ89 84 (ix ((5 * ((σ89 85 (ix (σ89 94 (ix ((30 + (σ89 93 (ix 1))) - 1))))) + (σ89 95 (ix ((30 + (σ89 93 (ix 1))) - 1))))) + 1)))) 1440 (bd (f_X12_over N n (sg (sg σ89 95 (ix ((30 + (σ89 93 (ix 1))) - 1)) ((σ89 95 (ix ((30 + (σ89 93 (ix 1))) - 1))) + 1)) 91 (ix 1) ((σ89 91 (ix 1)) + 1)) 1 (σ89 96 (ix ((24 * ((30 + (σ89 93 (ix 1))) - 1)) + (σ89 84 (ix ((5 * ((σ89 85 (ix (σ89 94 (ix ((30 + (σ89 93 (ix 1))) - 1))))) + (σ89 95 (ix ((30 + (σ89 93 (ix 1))) - 1))))) + 1))))))) (fun r145 σ146 => some (0, σ146)))) else (if (σ89 84 (ix (5 * ((σ89 85 (ix (σ89 94 (ix ((30 + (σ89 93 (ix 1))) - 1))))) + (σ89 95 (ix ((30 + (σ89 93 (ix 1))) - 1))))))) = 7 then (gb ((24 * ((30 + (σ89 93 (ix 1))) - 1)) + (σ89 84 (ix ((5 * ((σ89 85 (ix (σ89 94 (ix ((30 + (σ89 93 (ix 1))) - 1))))) + (σ89 95 (ix ((30 + (σ89 93 (ix 1))) - 1))))) + 2)))) 1440 (bd (f_X12_isCell N n (sg (sg σ89 95 (ix ((30 + (σ89 93 (ix 1))) - 1)) ((σ89 95 (ix ((30 + (σ89 93 (ix 1))) - 1))) + 1)) 91 (ix 1) ((σ89 91 (ix 1)) + 1)) (σ89 96 (ix ((24 * ((30 + (σ89 93 (ix 1))) - 1)) + (σ89 84 (ix ((5 * ((σ89 85 (ix (σ89 94 (ix ((30 + (σ89 93 (ix 1))) - 1))))) + (σ89 95 (ix ((30 + (σ89 93 (ix 1))) - 1))))) + 2))))))) (fun r150 σ151 => if r150 = 0 then (bd (f_X12_ends N n σ151 1 3) (fun r157 σ158 => some (0, σ158))) else (gb ((24 * ((30 + (σ89 93 (ix 1))) - 1)) + (σ89 84 (ix ((5 * ((σ89 85 (ix (σ89 94 (ix ((30 + (σ89 93 (ix 1))) - 1))))) + (σ89 95 (ix ((30 + (σ89 93 (ix 1))) - 1))))) + 2)))) 1440 (gb (64 + (σ151 96 (ix ((24 * ((30 + (σ89 93 (ix 1))) - 1)) + (σ89 84 (ix ((5 * ((σ89 85 (ix (σ89 94 (ix ((30 + (σ89 93 (ix 1))) - 1))))) + (σ89 95 (ix ((30 + (σ89 93 (ix 1))) - 1))))) + 2))))))) 128 (gb ((24 * ((30 + (σ89 93 (ix 1))) - 1)) + (σ89 84 (ix ((5 * ((σ89 85 (ix (σ89 94 (ix ((30 + (σ89 93 (ix 1))) - 1))))) + (σ89 95 (ix ((30 + (σ89 93 (ix 1))) - 1))))) + 1)))) 1440 (some (0, sg σ151 96 (ix ((24 * ((30 + (σ89 93 (ix 1))) - 1)) + (σ89 84 (ix ((5 * ((σ89 85 (ix (σ89 94 (ix ((30 + (σ89 93 (ix 1))) - 1))))) + (σ89 95 (ix ((30 + (σ89 93 (ix 1))) - 1))))) + 1))))) (σ151 88 (ix (64 + (σ151 96 (ix ((24 * ((30 + (σ89 93 (ix 1))) - 1)) + (σ89 84 (ix ((5 * ((σ89 85 (ix (σ89 94 (ix ((30 + (σ89 93 (ix 1))) - 1))))) + (σ89 95 (ix ((30 + (σ89 93 (ix 1))) - 1))))) + 2))))))))))))))))) else (if (σ89 84 (ix (5 * ((σ89 85 (ix (σ89 94 (ix ((30 + (σ89 93 (ix 1))) - 1))))) + (σ89 95 (ix ((30 + (σ89 93 (ix 1))) - 1))))))) = 8 then (gb ((24 * ((30 + (σ89 93 (ix 1))) - 1)) + (σ89 84 (ix ((5 * ((σ89 85 (ix (σ89 94 (ix ((30 + (σ89 93 (ix 1))) - 1))))) + (σ89 95 (ix ((30 + (σ89 93 (ix 1))) - 1))))) + 1)))) 1440 (bd (f_X12_isCell N n (sg (sg σ89 95 (ix ((30 + (σ89 93 (ix 1))) - 1)) ((σ89 95 (ix ((30 + (σ89 93 (ix 1))) - 1))) + 1)) 91 (ix 1) ((σ89 91 (ix 1)) + 1)) (σ89 96 (ix ((24 * ((30 + (σ89 93 (ix 1))) - 1)) + (σ89 84 (ix ((5 * ((σ89 85 (ix (σ89 94 (ix ((30 + (σ89 93 (ix 1))) - 1))))) + (σ89 95 (ix ((30 + (σ89 93 (ix 1))) - 1))))) + 1))))))) (fun r162 σ163 => if r162 = 0 then (bd (f_X12_ends N n σ163 1 3) (fun r169 σ170 => some (0, σ170))) else (gb ((24 * ((30 + (σ89 93 (ix 1))) - 1)) + (σ89 84 (ix ((5 * ((σ89 85 (ix (σ89 94 (ix ((30 + (σ89 93 (ix 1))) - 1))))) + (σ89 95 (ix ((30 + (σ89 93 (ix 1))) - 1))))) + 1)))) 1440 (gb ((24 * ((30 + (σ89 93 (ix 1))) - 1)) + (σ89 84 (ix ((5 * ((σ89 85 (ix (σ89 94 (ix ((30 + (σ89 93 (ix 1))) - 1))))) + (σ89 95 (ix ((30 + (σ89 93 (ix 1))) - 1))))) + 2)))) 1440 (gb (64 + (σ163 96 (ix ((24 * ((30 + (σ89 93 (ix 1))) - 1)) + (σ89 84 (ix ((5 * ((σ89 85 (ix (σ89 94 (ix ((30 + (σ89 93 (ix 1))) - 1))))) + (σ89 95 (ix ((30 + (σ89 93 (ix 1))) - 1))))) + 1))))))) 128 (some (0, sg σ163 88 (ix (64 + (σ163 96 (ix ((24 * ((30 + (σ89 93 (ix 1))) - 1)) + (σ89 84 (ix ((5 * ((σ89 85 (ix (σ89 94 (ix ((30 + (σ89 93 (ix 1))) - 1))))) + (σ89 95 (ix ((30 + (σ89 93 (ix 1))) - 1))))) + 1)))))))) (σ163 96 (ix ((24 * ((30 + (σ89 93 (ix 1))) - 1)) + (σ89 84 (ix ((5 * ((σ89 85 (ix (σ89 94 (ix ((30 + (σ89 93 (ix 1))) - 1))))) + (σ89 95 (ix ((30 + (σ89 93 (ix 1))) - 1))))) + 2)))))))))))))) else (gb (5 * ((σ89 85 (ix (σ89 94 (ix ((30 + (σ89 93 (ix 1))) - 1))))) + (σ89 95 (ix ((30 + (σ89 93 (ix 1))) - 1))))) 10000 (bd (f_X12_stepCall N n (sg (sg σ89 95 (ix ((30 + (σ89 93 (ix 1))) - 1)) ((σ89 95 (ix ((30 + (σ89 93 (ix 1))) - 1))) + 1)) 91 (ix 1) ((σ89 91 (ix 1)) + 1)) (σ89 84 (ix (5 * ((σ89 85 (ix (σ89 94 (ix ((30 + (σ89 93 (ix 1))) - 1))))) + (σ89 95 (ix ((30 + (σ89 93 (ix 1))) - 1))))))) (σ89 84 (ix ((5 * ((σ89 85 (ix (σ89 94 (ix ((30 + (σ89 93 (ix 1))) - 1))))) + (σ89 95 (ix ((30 + (σ89 93 (ix 1))) - 1))))) + 1))) (σ89 84 (ix ((5 * ((σ89 85 (ix (σ89 94 (ix ((30 + (σ89 93 (ix 1))) - 1))))) + (σ89 95 (ix ((30 + (σ89 93 (ix 1))) - 1))))) + 2))) ((30 + (σ89 93 (ix 1))) - 1)) (fun r173 σ174 => some (0, σ174)))))))))))))))))))))))))) else (gb 1 2 (gb ((30 + (σ 93 (ix 1))) - 1) 60 (gb (σ 94 (ix ((30 + (σ 93 (ix 1))) - 1))) 12 (gb ((30 + (σ 93 (ix 1))) - 1) 60 (gb ((5 * ((σ 85 (ix (σ 94 (ix ((30 + (σ 93 (ix 1))) - 1))))) + (σ 95 (ix ((30 + (σ 93 (ix 1))) - 1))))) + 1) 10000 (gb ((5 * ((σ 85 (ix (σ 94 (ix ((30 + (σ 93 (ix 1))) - 1))))) + (σ 95 (ix ((30 + (σ 93 (ix 1))) - 1))))) + 2) 10000 (gb ((5 * ((σ 85 (ix (σ 94 (ix ((30 + (σ 93 (ix 1))) - 1))))) + (σ 95 (ix ((30 + (σ 93 (ix 1))) - 1))))) + 3) 10000 (gb ((30 + (σ 93 (ix 1))) - 1) 60 (gb ((30 + (σ 93 (ix 1))) - 1) 60 (gb 1 2 (gb 1 2 (gb (5 * ((σ 85 (ix (σ 94 (ix ((30 + (σ 93 (ix 1))) - 1))))) + (σ 95 (ix ((30 + (σ 93 (ix 1))) - 1))))) 10000 (if (σ 84 (ix (5 * ((σ 85 (ix (σ 94 (ix ((30 + (σ 93 (ix 1))) - 1))))) + (σ 95 (ix ((30 + (σ 93 (ix 1))) - 1))))))) = 0 then (gb ((24 * ((30 + (σ 93 (ix 1))) - 1)) + (σ 84 (ix ((5 * ((σ 85 (ix (σ 94 (ix ((30 + (σ 93 (ix 1))) - 1))))) + (σ 95 (ix ((30 + (σ 93 (ix 1))) - 1))))) + 1)))) 1440 (some (0, sg (sg (sg σ 95 (ix ((30 + (σ 93 (ix 1))) - 1)) ((σ 95 (ix ((30 + (σ 93 (ix 1))) - 1))) + 1)) 91 (ix 1) ((σ 91 (ix 1)) + 1)) 96 (ix ((24 * ((30 + (σ 93 (ix 1))) - 1)) + (σ 84 (ix ((5 * ((σ 85 (ix (σ 94 (ix ((30 + (σ 93 (ix 1))) - 1))))) + (σ 95 (ix ((30 + (σ 93 (ix 1))) - 1))))) + 1))))) (σ 84 (ix ((5 * ((σ 85 (ix (σ 94 (ix ((30 + (σ 93 (ix 1))) - 1))))) + (σ 95 (ix ((30 + (σ 93 (ix 1))) - 1))))) + 2)))))) else (if (σ 84 (ix (5 * ((σ 85 (ix (σ 94 (ix ((30 + (σ 93 (ix 1))) - 1))))) + (σ 95 (ix ((30 + (σ 93 (ix 1))) - 1))))))) = 1 then (gb ((24 * ((30 + (σ 93 (ix 1))) - 1)) + (σ 84 (ix ((5 * ((σ 85 (ix (σ 94 (ix ((30 + (σ 93 (ix 1))) - 1))))) + (σ 95 (ix ((30 + (σ 93 (ix 1))) - 1))))) + 2)))) 1440 (gb ((24 * ((30 + (σ 93 (ix 1))) - 1)) + (σ 84 (ix ((5 * ((σ 85 (ix (σ 94 (ix ((30 + (σ 93 (ix 1))) - 1))))) + (σ 95 (ix ((30 + (σ 93 (ix 1))) - 1))))) + 1)))) 1440 (some (0, sg (sg (sg σ 95 (ix ((30 + (σ 93 (ix 1))) - 1)) ((σ 95 (ix ((30 + (σ 93 (ix 1))) - 1))) + 1)) 91 (ix 1) ((σ 91 (ix 1)) + 1)) 96 (ix ((24 * ((30 + (σ 93 (ix 1))) - 1)) + (σ 84 (ix ((5 * ((σ 85 (ix (σ 94 (ix ((30 + (σ 93 (ix 1))) - 1))))) + (σ 95 (ix ((30 + (σ 93 (ix 1))) - 1))))) + 1))))) (σ 96 (ix ((24 * ((30 + (σ 93 (ix 1))) - 1)) + (σ 84 (ix ((5 * ((σ 85 (ix (σ 94 (ix ((30 + (σ 93 (ix 1))) - 1))))) + (σ 95 (ix ((30 + (σ 93 (ix 1))) - 1))))) + 2)))))))))) else (if (σ 84 (ix (5 * ((σ 85 (ix (σ 94 (ix ((30 + (σ 93 (ix 1))) - 1))))) + (σ 95 (ix ((30 + (σ 93 (ix 1))) - 1))))))) = 2 then (gb ((5 * ((σ 85 (ix (σ 94 (ix ((30 + (σ 93 (ix 1))) - 1))))) + (σ 95 (ix ((30 + (σ 93 (ix 1))) - 1))))) + 4) 10000 (if (σ 84 (ix ((5 * ((σ 85 (ix (σ 94 (ix ((30 + (σ 93 (ix 1))) - 1))))) + (σ 95 (ix ((30 + (σ 93 (ix 1))) - 1))))) + 4))) = 6 then (gb ((24 * ((30 + (σ 93 (ix 1))) - 1)) + (σ 84 (ix ((5 * ((σ 85 (ix (σ 94 (ix ((30 + (σ 93 (ix 1))) - 1))))) + (σ 95 (ix ((30 + (σ 93 (ix 1))) - 1))))) + 3)))) 1440 (if (σ 96 (ix ((24 * ((30 + (σ 93 (ix 1))) - 1)) + (σ 84 (ix ((5 * ((σ 85 (ix (σ 94 (ix ((30 + (σ 93 (ix 1))) - 1))))) + (σ 95 (ix ((30 + (σ 93 (ix 1))) - 1))))) + 3)))))) = 0 then (bd (f_X12_ends N n (sg (sg σ 95 (ix ((30 + (σ 93 (ix 1))) - 1)) ((σ 95 (ix ((30 + (σ 93 (ix 1))) - 1))) + 1)) 91 (ix 1) ((σ 91 (ix 1)) + 1)) 1 2) (fun r39 σ40 => some (0, σ40))) else (gb ((5 * ((σ 85 (ix (σ 94 (ix ((30 + (σ 93 (ix 1))) - 1))))) + (σ 95 (ix ((30 + (σ 93 (ix 1))) - 1))))) + 4) 10000 (gb ((24 * ((30 + (σ 93 (ix 1))) - 1)) + (σ 84 (ix ((5 * ((σ 85 (ix (σ 94 (ix ((30 + (σ 93 (ix 1))) - 1))))) + (σ 95 (ix ((30 + (σ 93 (ix 1))) - 1))))) + 2)))) 1440 (gb ((24 * ((30 + (σ 93 (ix 1))) - 1)) + (σ 84 (ix ((5 * ((σ 85 (ix (σ 94 (ix ((30 + (σ 93 (ix 1))) - 1))))) + (σ 95 (ix ((30 + (σ 93 (ix 1))) - 1))))) + 3)))) 1440 (bd (f_X12_works N n (sg (sg σ 95 (ix ((30 + (σ 93 (ix 1))) - 1)) ((σ 95 (ix ((30 + (σ 93 (ix 1))) - 1))) + 1)) 91 (ix 1) ((σ 91 (ix 1)) + 1)) (σ 84 (ix ((5 * ((σ 85 (ix (σ 94 (ix ((30 + (σ 93 (ix 1))) - 1))))) + (σ 95 (ix ((30 + (σ 93 (ix 1))) - 1))))) + 4))) (σ 96 (ix ((24 * ((30 + (σ 93 (ix 1))) - 1)) + (σ 84 (ix ((5 * ((σ 85 (ix (σ 94 (ix ((30 + (σ 93 (ix 1))) - 1))))) + (σ 95 (ix ((30 + (σ 93 (ix 1))) - 1))))) + 2)))))) (σ 96 (ix ((24 * ((30 + (σ 93 (ix 1))) - 1)) + (σ 84 (ix ((5 * ((σ 85 (ix (σ 94 (ix ((30 + (σ 93 (ix 1))) - 1))))) + (σ 95 (ix ((30 + (σ 93 (ix 1))) - 1))))) + 3))))))) (fun r35 σ36 => gb ((24 * ((30 + (σ 93 (ix 1))) - 1)) + (σ 84 (ix ((5 * ((σ 85 (ix (σ 94 (ix ((30 + (σ 93 (ix 1))) - 1))))) + (σ 95 (ix ((30 + (σ 93 (ix 1))) - 1))))) + 1)))) 1440 (some (0, sg σ36 96 (ix ((24 * ((30 + (σ 93 (ix 1))) - 1)) + (σ 84 (ix ((5 * ((σ 85 (ix (σ 94 (ix ((30 + (σ 93 (ix 1))) - 1))))) + (σ 95 (ix ((30 + (σ 93 (ix 1))) - 1))))) + 1))))) r35))))))))) else (gb ((5 * ((σ 85 (ix (σ 94 (ix ((30 + (σ 93 (ix 1))) - 1))))) + (σ 95 (ix ((30 + (σ 93 (ix 1))) - 1))))) + 4) 10000 (gb ((24 * ((30 + (σ 93 (ix 1))) - 1)) + (σ 84 (ix ((5 * ((σ 85 (ix (σ 94 (ix ((30 + (σ 93 (ix 1))) - 1))))) + (σ 95 (ix ((30 + (σ 93 (ix 1))) - 1))))) + 2)))) 1440 (gb ((24 * ((30 + (σ 93 (ix 1))) - 1)) + (σ 84 (ix ((5 * ((σ 85 (ix (σ 94 (ix ((30 + (σ 93 (ix 1))) - 1))))) + (σ 95 (ix ((30 + (σ 93 (ix 1))) - 1))))) + 3)))) 1440 (bd (f_X12_works N n (sg (sg σ 95 (ix ((30 + (σ 93 (ix 1))) - 1)) ((σ 95 (ix ((30 + (σ 93 (ix 1))) - 1))) + 1)) 91 (ix 1) ((σ 91 (ix 1)) + 1)) (σ 84 (ix ((5 * ((σ 85 (ix (σ 94 (ix ((30 + (σ 93 (ix 1))) - 1))))) + (σ 95 (ix ((30 + (σ 93 (ix 1))) - 1))))) + 4))) (σ 96 (ix ((24 * ((30 + (σ 93 (ix 1))) - 1)) + (σ 84 (ix ((5 * ((σ 85 (ix (σ 94 (ix ((30 + (σ 93 (ix 1))) - 1))))) + (σ 95 (ix ((30 + (σ 93 (ix 1))) - 1))))) + 2)))))) (σ 96 (ix ((24 * ((30 + (σ 93 (ix 1))) - 1)) + (σ 84 (ix ((5 * ((σ 85 (ix (σ 94 (ix ((30 + (σ 93 (ix 1))) - 1))))) + (σ 95 (ix ((30 + (σ 93 (ix 1))) - 1))))) + 3))))))) (fun r26 σ27 => gb ((24 * ((30 + (σ 93 (ix 1))) - 1)) + (σ 84 (ix ((5 * ((σ 85 (ix (σ 94 (ix ((30 + (σ 93 (ix 1))) - 1))))) + (σ 95 (ix ((30 + (σ 93 (ix 1))) - 1))))) + 1)))) 1440 (some (0, sg σ27 96 (ix ((24 * ((30 + (σ 93 (ix 1))) - 1)) + (σ 84 (ix ((5 * ((σ 85 (ix (σ 94 (ix ((30 + (σ 93 (ix 1))) - 1))))) + (σ 95 (ix ((30 + (σ 93 (ix 1))) - 1))))) + 1))))) r26))))))))) else (if (σ 84 (ix (5 * ((σ 85 (ix (σ 94 (ix ((30 + (σ 93 (ix 1))) - 1))))) + (σ 95 (ix ((30 + (σ 93 (ix 1))) - 1))))))) = 3 then (gb ((24 * ((30 + (σ 93 (ix 1))) - 1)) + (σ 84 (ix ((5 * ((σ 85 (ix (σ 94 (ix ((30 + (σ 93 (ix 1))) - 1))))) + (σ 95 (ix ((30 + (σ 93 (ix 1))) - 1))))) + 1)))) 1440 (gb ((24 * ((30 + (σ 93 (ix 1))) - 1)) + (σ 84 (ix ((5 * ((σ 85 (ix (σ 94 (ix ((30 + (σ 93 (ix 1))) - 1))))) + (σ 95 (ix ((30 + (σ 93 (ix 1))) - 1))))) + 2)))) 1440 (gb ((24 * ((30 + (σ 93 (ix 1))) - 1)) + (σ 84 (ix ((5 * ((σ 85 (ix (σ 94 (ix ((30 + (σ 93 (ix 1))) - 1))))) + (σ 95 (ix ((30 + (σ 93 (ix 1))) - 1))))) + 1)))) 1440 (gb ((24 * ((30 + (σ 93 (ix 1))) - 1)) + (σ 84 (ix ((5 * ((σ 85 (ix (σ 94 (ix ((30 + (σ 93 (ix 1))) - 1))))) + (σ 95 (ix ((30 + (σ 93 (ix 1))) - 1))))) + 2)))) 1440 (some (0, sg (sg (sg (sg σ 95 (ix ((30 + (σ 93 (ix 1))) - 1)) ((σ 95 (ix ((30 + (σ 93 (ix 1))) - 1))) + 1)) 91 (ix 1) ((σ 91 (ix 1)) + 1)) 96 (ix ((24 * ((30 + (σ 93 (ix 1))) - 1)) + (σ 84 (ix ((5 * ((σ 85 (ix (σ 94 (ix ((30 + (σ 93 (ix 1))) - 1))))) + (σ 95 (ix ((30 + (σ 93 (ix 1))) - 1))))) + 1))))) (σ 96 (ix ((24 * ((30 + (σ 93 (ix 1))) - 1)) + (σ 84 (ix ((5 * ((σ 85 (ix (σ 94 (ix ((30 + (σ 93 (ix 1))) - 1))))) + (σ 95 (ix ((30 + (σ 93 (ix 1))) - 1))))) + 2))))))) 96 (ix ((24 * ((30 + (σ 93 (ix 1))) - 1)) + (σ 84 (ix ((5 * ((σ 85 (ix (σ 94 (ix ((30 + (σ 93 (ix 1))) - 1))))) + (σ 95 (ix ((30 + (σ 93 (ix 1))) - 1))))) + 2))))) (σ 96 (ix ((24 * ((30 + (σ 93 (ix 1))) - 1)) + (σ 84 (ix ((5 * ((σ 85 (ix (σ 94 (ix ((30 + (σ 93 (ix 1))) - 1))))) + (σ 95 (ix ((30 + (σ 93 (ix 1))) - 1))))) + 1)))))))))))) else (if (σ 84 (ix (5 * ((σ 85 (ix (σ 94 (ix ((30 + (σ 93 (ix 1))) - 1))))) + (σ 95 (ix ((30 + (σ 93 (ix 1))) - 1))))))) = 4 then (gb ((30 + (σ 93 (ix 1))) - 1) 60 (some (0, sg (sg (sg σ 95 (ix ((30 + (σ 93 (ix 1))) - 1)) ((σ 95 (ix ((30 + (σ 93 (ix 1))) - 1))) + 1)) 91 (ix 1) ((σ 91 (ix 1)) + 1)) 95 (ix ((30 + (σ 93 (ix 1))) - 1)) (σ 84 (ix ((5 * ((σ 85 (ix (σ 94 (ix ((30 + (σ 93 (ix 1))) - 1))))) + (σ 95 (ix ((30 + (σ 93 (ix 1))) - 1))))) + 1)))))) else (if (σ 84 (ix (5 * ((σ 85 (ix (σ 94 (ix ((30 + (σ 93 (ix 1))) - 1))))) + (σ 95 (ix ((30 + (σ 93 (ix 1))) - 1))))))) = 5 then (gb ((24 * ((30 + (σ 93 (ix 1))) - 1)) + (σ 84 (ix ((5 * ((σ 85 (ix (σ 94 (ix ((30 + (σ 93 (ix 1))) - 1))))) + (σ 95 (ix ((30 + (σ 93 (ix 1))) - 1))))) + 1)))) 1440 (if (σ 96 (ix ((24 * ((30 + (σ 93 (ix 1))) - 1)) + (σ 84 (ix ((5 * ((σ 85 (ix (σ 94 (ix ((30 + (σ 93 (ix 1))) - 1))))) + (σ 95 (ix ((30 + (σ 93 (ix 1))) - 1))))) + 1)))))) = 0 then (gb ((30 + (σ 93 (ix 1))) - 1) 60 (some (0, sg (sg (sg σ 95 (ix ((30 + (σ 93 (ix 1))) - 1)) ((σ 95 (ix ((30 + (σ 93 (ix 1))) - 1))) + 1)) 91 (ix 1) ((σ 91 (ix 1)) + 1)) 95 (ix ((30 + (σ 93 (ix 1))) - 1)) (σ 84 (ix ((5 * ((σ 85 (ix (σ 94 (ix ((30 + (σ 93 (ix 1))) - 1))))) + (σ 95 (ix ((30 + (σ 93 (ix 1))) - 1))))) + 2)))))) else (gb ((30 + (σ 93 (ix 1))) - 1) 60 (gb ((30 + (σ 93 (ix 1))) - 1) 60 (some (0, sg (sg (sg σ 95 (ix ((30 + (σ 93 (ix 1))) - 1)) ((σ 95 (ix ((30 + (σ 93 (ix 1))) - 1))) + 1)) 91 (ix 1) ((σ 91 (ix 1)) + 1)) 95 (ix ((30 + (σ 93 (ix 1))) - 1)) ((σ 95 (ix ((30 + (σ 93 (ix 1))) - 1))) + 1))))))) else (if (σ 84 (ix (5 * ((σ 85 (ix (σ 94 (ix ((30 + (σ 93 (ix 1))) - 1))))) + (σ 95 (ix ((30 + (σ 93 (ix 1))) - 1))))))) = 6 then (gb ((24 * ((30 + (σ 93 (ix 1))) - 1)) + (σ 84 (ix ((5 * ((σ 85 (ix (σ 94 (ix ((30 + (σ 93 (ix 1))) - 1))))) + (σ 95 (ix ((30 + (σ 93 (ix 1))) - 1))))) + 1)))) 1440 (bd (f_X12_over N n (sg (sg σ 95 (ix ((30 + (σ 93 (ix 1))) - 1)) ((σ 95 (ix ((30 + (σ 93 (ix 1))) - 1))) + 1)) 91 (ix 1) ((σ 91 (ix 1)) + 1)) 1 (σ 96 (ix ((24 * ((30 + (σ 93 (ix 1))) - 1)) + (σ 84 (ix ((5 * ((σ 85 (ix (σ 94 (ix ((30 + (σ 93 (ix 1))) - 1))))) + (σ 95 (ix ((30 + (σ 93 (ix 1))) - 1))))) + 1))))))) (fun r57 σ58 => some (0, σ58)))) else (if (σ 84 (ix (5 * ((σ 85 (ix (σ 94 (ix ((30 + (σ 93 (ix 1))) - 1))))) + (σ 95 (ix ((30 + (σ 93 (ix 1))) - 1))))))) = 7 then (gb ((24 * ((30 + (σ 93 (ix 1))) - 1)) + (σ 84 (ix ((5 * ((σ 85 (ix (σ 94 (ix ((30 + (σ 93 (ix 1))) - 1))))) + (σ 95 (ix ((30 + (σ 93 (ix 1))) - 1))))) + 2)))) 1440 (bd (f_X12_isCell N n (sg (sg σ 95 (ix ((30 + (σ 93 (ix 1))) - 1)) ((σ 95 (ix ((30 + (σ 93 (ix 1))) - 1))) + 1)) 91 (ix 1) ((σ 91 (ix 1)) + 1)) (σ 96 (ix ((24 * ((30 + (σ 93 (ix 1))) - 1)) + (σ 84 (ix ((5 * ((σ 85 (ix (σ 94 (ix ((30 + (σ 93 (ix 1))) - 1))))) + (σ 95 (ix ((30 + (σ 93 (ix 1))) - 1))))) + 2))))))) (fun r62 σ63 => if r62 = 0 then (bd (f_X12_ends N n σ63 1 3) (fun r69 σ70 => some (0, σ70))) else (gb ((24 * ((30 + (σ 93 (ix 1))) - 1)) + (σ 84 (ix ((5 * ((σ 85 (ix (σ 94 (ix ((30 + (σ 93 (ix 1))) - 1))))) + (σ 95 (ix ((30 + (σ 93 (ix 1))) - 1))))) + 2)))) 1440 (gb (64 + (σ63 96 (ix ((24 * ((30 + (σ 93 (ix 1))) - 1)) + (σ 84 (ix ((5 * ((σ 85 (ix (σ 94 (ix ((30 + (σ 93 (ix 1))) - 1))))) + (σ 95 (ix ((30 + (σ 93 (ix 1))) - 1))))) + 2))))))) 128 (gb ((24 * ((30 + (σ 93 (ix 1))) - 1)) + (σ 84 (ix ((5 * ((σ 85 (ix (σ 94 (ix ((30 + (σ 93 (ix 1))) - 1))))) + (σ 95 (ix ((30 + (σ 93 (ix 1))) - 1))))) + 1)))) 1440 (some (0, sg σ63 96 (ix ((24 * ((30 + (σ 93 (ix 1))) - 1)) + (σ 84 (ix ((5 * ((σ 85 (ix (σ 94 (ix ((30 + (σ 93 (ix 1))) - 1))))) + (σ 95 (ix ((30 + (σ 93 (ix 1))) - 1))))) + 1))))) (σ63 88 (ix (64 + (σ63 96 (ix ((24 * ((30 + (σ 93 (ix 1))) - 1)) + (σ 84 (ix ((5 * ((σ 85 (ix (σ 94 (ix ((30 + (σ 93 (ix 1))) - 1))))) + (σ 95 (ix ((30 + (σ 93 (ix 1))) - 1))))) + 2))))))))))))))))) else (if (σ 84 (ix (5 * ((σ 85 (ix (σ 94 (ix ((30 + (σ 93 (ix 1))) - 1))))) + (σ 95 (ix ((30 + (σ 93 (ix 1))) - 1))))))) = 8 then (gb ((24 * ((30 + (σ 93 (ix 1))) - 1)) + (σ 84 (ix ((5 * ((σ 85 (ix (σ 94 (ix ((30 + (σ 93 (ix 1))) - 1))))) + (σ 95 (ix ((30 + (σ 93 (ix 1))) - 1))))) + 1)))) 1440 (bd (f_X12_isCell N n (sg (sg σ 95 (ix ((30 + (σ 93 (ix 1))) - 1)) ((σ 95 (ix ((30 + (σ 93 (ix 1))) - 1))) + 1)) 91 (ix 1) ((σ 91 (ix 1)) + 1)) (σ 96 (ix ((24 * ((30 + (σ 93 (ix 1))) - 1)) + (σ 84 (ix ((5 * ((σ 85 (ix (σ 94 (ix ((30 + (σ 93 (ix 1))) - 1))))) + (σ 95 (ix ((30 + (σ 93 (ix 1))) - 1))))) + 1))))))) (fun r74 σ75 => if r74 = 0 then (bd (f_X12_ends N n σ75 1 3) (fun r81 σ82 => some (0, σ82))) else (gb ((24 * ((30 + (σ 93 (ix 1))) - 1)) + (σ 84 (ix ((5 * ((σ 85 (ix (σ 94 (ix ((30 + (σ 93 (ix 1))) - 1))))) + (σ 95 (ix ((30 + (σ 93 (ix 1))) - 1))))) + 1)))) 1440 (gb ((24 * ((30 + (σ 93 (ix 1))) - 1)) + (σ 84 (ix ((5 * ((σ 85 (ix (σ 94 (ix ((30 + (σ 93 (ix 1))) - 1))))) + (σ 95 (ix ((30 + (σ 93 (ix 1))) - 1))))) + 2)))) 1440 (gb (64 + (σ75 96 (ix ((24 * ((30 + (σ 93 (ix 1))) - 1)) + (σ 84 (ix ((5 * ((σ 85 (ix (σ 94 (ix ((30 + (σ 93 (ix 1))) - 1))))) + (σ 95 (ix ((30 + (σ 93 (ix 1))) - 1))))) + 1))))))) 128 (some (0, sg σ75 88 (ix (64 + (σ75 96 (ix ((24 * ((30 + (σ 93 (ix 1))) - 1)) + (σ 84 (ix ((5 * ((σ 85 (ix (σ 94 (ix ((30 + (σ 93 (ix 1))) - 1))))) + (σ 95 (ix ((30 + (σ 93 (ix 1))) - 1))))) + 1)))))))) (σ75 96 (ix ((24 * ((30 + (σ 93 (ix 1))) - 1)) + (σ 84 (ix ((5 * ((σ 85 (ix (σ 94 (ix ((30 + (σ 93 (ix 1))) - 1))))) + (σ 95 (ix ((30 + (σ 93 (ix 1))) - 1))))) + 2)))))))))))))) else (gb (5 * ((σ 85 (ix (σ 94 (ix ((30 + (σ 93 (ix 1))) - 1))))) + (σ 95 (ix ((30 + (σ 93 (ix 1))) - 1))))) 10000 (bd (f_X12_stepCall N n (sg (sg σ 95 (ix ((30 + (σ 93 (ix 1))) - 1)) ((σ 95 (ix ((30 + (σ 93 (ix 1))) - 1))) + 1)) 91 (ix 1) ((σ 91 (ix 1)) + 1)) (σ 84 (ix (5 * ((σ 85 (ix (σ 94 (ix ((30 + (σ 93 (ix 1))) - 1))))) + (σ 95 (ix ((30 + (σ 93 (ix 1))) - 1))))))) (σ 84 (ix ((5 * ((σ 85 (ix (σ 94 (ix ((30 + (σ 93 (ix 1))) - 1))))) + (σ 95 (ix ((30 + (σ 93 (ix 1))) - 1))))) + 1))) (σ 84 (ix ((5 * ((σ 85 (ix (σ 94 (ix ((30 + (σ 93 (ix 1))) - 1))))) + (σ 95 (ix ((30 + (σ 93 (ix 1))) - 1))))) + 2))) ((30 + (σ 93 (ix 1))) - 1)) (fun r85 σ86 => some (0, σ86))))))))))))))))))))))))))
set_option maxHeartbeats 4000000 in
set_option maxRecDepth 100000 in
theorem c_X12_stepRegisters {l : Launch} {g : GG} {q : Nat} (N n : Nat) {σ : Sg}  {r : Int32} {σ' : Sg} (hm : f_X12_stepRegisters N n σ  = some (r, σ')) : CTv l yX12_stepRegisters cX12_stepRegisters 8 none 2 49 g q n [.ref (ga g 59)] σ σ' := by
  refine e_v (r := r) (by decide) (Nat.le_of_ble_eq_true rfl) ?_
  intro p e s m args below meth c A Q ls hC hl hI
  obtain ⟨hX, hK, hN, hZ, hA, hR⟩ := id hC
  have hx : p.tables.exec = Jvm.exec := hX.1
  have hb : c.code = cX12_stepRegisters := hX.2.1
  have hml : c.maxLocals = 8 := hX.2.2.1
  have hown : s.vm.findClass RX12 = some m.cls := hX.2.2.2.1
  have ht : ∀ w ∈ BIG, w.before args s = true := hX.2.2.2.2
  have hl : lv_has ls 8 [(0, .ref (ga g 59))] := hl
  unfold f_X12_stepRegisters at hm
  refine lv_aload_n hx hb dX12_stepRegisters_0 rfl (lv_at hl 0 rfl) ?_
  refine gf_59_43 hx hb ht hK hI mw_788 (fun _ h9 => h9) hown dX12_stepRegisters_1 ?_
  refine lv_iconst (v := 1) hx hb dX12_stepRegisters_4 (by decide) ?_
  obtain ⟨g1, hm⟩ := gb_some hm
  refine ld_93 hx hb hK hI g1 (v := σ 93 (ix 1)) rfl dX12_stepRegisters_5 ?_
  refine lv_if_ne (tgt := 15) hx hb dX12_stepRegisters_6 (by decide) (fun c2 => ?_) (fun c2 => ?_)
  · have hm := (if_neg c2).symm.trans hm
    refine lv_bipush (v := 30) hx hb dX12_stepRegisters_15 (by decide) ?_
    refine lv_aload_n hx hb dX12_stepRegisters_17 rfl (lv_at hl 0 rfl) ?_
    refine gf_59_43 hx hb ht hK hI mw_788 (fun _ h9 => h9) hown dX12_stepRegisters_18 ?_
    refine lv_iconst (v := 1) hx hb dX12_stepRegisters_21 (by decide) ?_
    obtain ⟨g3, hm⟩ := gb_some hm
    refine ld_93 hx hb hK hI g3 (v := σ 93 (ix 1)) rfl dX12_stepRegisters_22 ?_
    refine lv_iadd hx hb dX12_stepRegisters_23 ?_
    refine lv_iconst (v := 1) hx hb dX12_stepRegisters_24 (by decide) ?_
    refine lv_isub hx hb dX12_stepRegisters_25 ?_
    refine lv_istore_n (lv' := [(1, .int ((30 + (σ 93 (ix 1))) - 1)), (0, .ref (ga g 59))]) hx hb dX12_stepRegisters_26 rfl hl (by decide) rfl (fun ls hl => ?_)
    refine lv_iconst (v := 5) hx hb dX12_stepRegisters_27 (by decide) ?_
    refine lv_aload_n hx hb dX12_stepRegisters_28 rfl (lv_at hl 1 rfl) ?_
    refine gf_59_32 hx hb ht hK hI mw_780 (fun _ h9 => h9) hown dX12_stepRegisters_29 ?_
    refine lv_aload_n hx hb dX12_stepRegisters_32 rfl (lv_at hl 1 rfl) ?_
    refine gf_59_44 hx hb ht hK hI mw_789 (fun _ h9 => h9) hown dX12_stepRegisters_33 ?_
    refine lv_iload_n hx hb dX12_stepRegisters_36 rfl (lv_at hl 0 rfl) ?_
    obtain ⟨g4, hm⟩ := gb_some hm
    refine ld_94 hx hb hK hI g4 (v := σ 94 (ix ((30 + (σ 93 (ix 1))) - 1))) rfl dX12_stepRegisters_37 ?_
    obtain ⟨g5, hm⟩ := gb_some hm
    refine ld_85 hx hb hK hI g5 (v := σ 85 (ix (σ 94 (ix ((30 + (σ 93 (ix 1))) - 1))))) rfl dX12_stepRegisters_38 ?_
    refine lv_aload_n hx hb dX12_stepRegisters_39 rfl (lv_at hl 1 rfl) ?_
    refine gf_59_45 hx hb ht hK hI mw_790 (fun _ h9 => h9) hown dX12_stepRegisters_40 ?_
    refine lv_iload_n hx hb dX12_stepRegisters_43 rfl (lv_at hl 0 rfl) ?_
    obtain ⟨g6, hm⟩ := gb_some hm
    refine ld_95 hx hb hK hI g6 (v := σ 95 (ix ((30 + (σ 93 (ix 1))) - 1))) rfl dX12_stepRegisters_44 ?_
    refine lv_iadd hx hb dX12_stepRegisters_45 ?_
    refine lv_imul hx hb dX12_stepRegisters_46 ?_
    refine lv_istore_n (lv' := [(2, .int (5 * ((σ 85 (ix (σ 94 (ix ((30 + (σ 93 (ix 1))) - 1))))) + (σ 95 (ix ((30 + (σ 93 (ix 1))) - 1)))))), (1, .int ((30 + (σ 93 (ix 1))) - 1)), (0, .ref (ga g 59))]) hx hb dX12_stepRegisters_47 rfl hl (by decide) rfl (fun ls hl => ?_)
    refine lv_aload_n hx hb dX12_stepRegisters_48 rfl (lv_at hl 2 rfl) ?_
    refine gf_59_31 hx hb ht hK hI mw_779 (fun _ h9 => h9) hown dX12_stepRegisters_49 ?_
    refine lv_iload_n hx hb dX12_stepRegisters_52 rfl (lv_at hl 0 rfl) ?_
    refine lv_iconst (v := 1) hx hb dX12_stepRegisters_53 (by decide) ?_
    refine lv_iadd hx hb dX12_stepRegisters_54 ?_
    obtain ⟨g7, hm⟩ := gb_some hm
    refine ld_84 hx hb hK hI g7 (v := σ 84 (ix ((5 * ((σ 85 (ix (σ 94 (ix ((30 + (σ 93 (ix 1))) - 1))))) + (σ 95 (ix ((30 + (σ 93 (ix 1))) - 1))))) + 1))) rfl dX12_stepRegisters_55 ?_
    refine lv_istore_n (lv' := [(3, .int (σ 84 (ix ((5 * ((σ 85 (ix (σ 94 (ix ((30 + (σ 93 (ix 1))) - 1))))) + (σ 95 (ix ((30 + (σ 93 (ix 1))) - 1))))) + 1)))), (2, .int (5 * ((σ 85 (ix (σ 94 (ix ((30 + (σ 93 (ix 1))) - 1))))) + (σ 95 (ix ((30 + (σ 93 (ix 1))) - 1)))))), (1, .int ((30 + (σ 93 (ix 1))) - 1)), (0, .ref (ga g 59))]) hx hb dX12_stepRegisters_56 rfl hl (by decide) rfl (fun ls hl => ?_)
    refine lv_aload_n hx hb dX12_stepRegisters_57 rfl (lv_at hl 3 rfl) ?_
    refine gf_59_31 hx hb ht hK hI mw_779 (fun _ h9 => h9) hown dX12_stepRegisters_58 ?_
    refine lv_iload_n hx hb dX12_stepRegisters_61 rfl (lv_at hl 1 rfl) ?_
    refine lv_iconst (v := 2) hx hb dX12_stepRegisters_62 (by decide) ?_
    refine lv_iadd hx hb dX12_stepRegisters_63 ?_
    obtain ⟨g8, hm⟩ := gb_some hm
    refine ld_84 hx hb hK hI g8 (v := σ 84 (ix ((5 * ((σ 85 (ix (σ 94 (ix ((30 + (σ 93 (ix 1))) - 1))))) + (σ 95 (ix ((30 + (σ 93 (ix 1))) - 1))))) + 2))) rfl dX12_stepRegisters_64 ?_
    refine lv_istore (lv' := [(4, .int (σ 84 (ix ((5 * ((σ 85 (ix (σ 94 (ix ((30 + (σ 93 (ix 1))) - 1))))) + (σ 95 (ix ((30 + (σ 93 (ix 1))) - 1))))) + 2)))), (3, .int (σ 84 (ix ((5 * ((σ 85 (ix (σ 94 (ix ((30 + (σ 93 (ix 1))) - 1))))) + (σ 95 (ix ((30 + (σ 93 (ix 1))) - 1))))) + 1)))), (2, .int (5 * ((σ 85 (ix (σ 94 (ix ((30 + (σ 93 (ix 1))) - 1))))) + (σ 95 (ix ((30 + (σ 93 (ix 1))) - 1)))))), (1, .int ((30 + (σ 93 (ix 1))) - 1)), (0, .ref (ga g 59))]) hx hb dX12_stepRegisters_65 hl (by decide) rfl (fun ls hl => ?_)
    refine lv_aload_n hx hb dX12_stepRegisters_67 rfl (lv_at hl 4 rfl) ?_
    refine gf_59_31 hx hb ht hK hI mw_779 (fun _ h9 => h9) hown dX12_stepRegisters_68 ?_
    refine lv_iload_n hx hb dX12_stepRegisters_71 rfl (lv_at hl 2 rfl) ?_
    refine lv_iconst (v := 3) hx hb dX12_stepRegisters_72 (by decide) ?_
    refine lv_iadd hx hb dX12_stepRegisters_73 ?_
    obtain ⟨g9, hm⟩ := gb_some hm
    refine ld_84 hx hb hK hI g9 (v := σ 84 (ix ((5 * ((σ 85 (ix (σ 94 (ix ((30 + (σ 93 (ix 1))) - 1))))) + (σ 95 (ix ((30 + (σ 93 (ix 1))) - 1))))) + 3))) rfl dX12_stepRegisters_74 ?_
    refine lv_istore (lv' := [(5, .int (σ 84 (ix ((5 * ((σ 85 (ix (σ 94 (ix ((30 + (σ 93 (ix 1))) - 1))))) + (σ 95 (ix ((30 + (σ 93 (ix 1))) - 1))))) + 3)))), (4, .int (σ 84 (ix ((5 * ((σ 85 (ix (σ 94 (ix ((30 + (σ 93 (ix 1))) - 1))))) + (σ 95 (ix ((30 + (σ 93 (ix 1))) - 1))))) + 2)))), (3, .int (σ 84 (ix ((5 * ((σ 85 (ix (σ 94 (ix ((30 + (σ 93 (ix 1))) - 1))))) + (σ 95 (ix ((30 + (σ 93 (ix 1))) - 1))))) + 1)))), (2, .int (5 * ((σ 85 (ix (σ 94 (ix ((30 + (σ 93 (ix 1))) - 1))))) + (σ 95 (ix ((30 + (σ 93 (ix 1))) - 1)))))), (1, .int ((30 + (σ 93 (ix 1))) - 1)), (0, .ref (ga g 59))]) hx hb dX12_stepRegisters_75 hl (by decide) rfl (fun ls hl => ?_)
    refine lv_bipush (v := 24) hx hb dX12_stepRegisters_77 (by decide) ?_
    refine lv_iload_n hx hb dX12_stepRegisters_79 rfl (lv_at hl 4 rfl) ?_
    refine lv_imul hx hb dX12_stepRegisters_80 ?_
    refine lv_istore (lv' := [(6, .int (24 * ((30 + (σ 93 (ix 1))) - 1))), (5, .int (σ 84 (ix ((5 * ((σ 85 (ix (σ 94 (ix ((30 + (σ 93 (ix 1))) - 1))))) + (σ 95 (ix ((30 + (σ 93 (ix 1))) - 1))))) + 3)))), (4, .int (σ 84 (ix ((5 * ((σ 85 (ix (σ 94 (ix ((30 + (σ 93 (ix 1))) - 1))))) + (σ 95 (ix ((30 + (σ 93 (ix 1))) - 1))))) + 2)))), (3, .int (σ 84 (ix ((5 * ((σ 85 (ix (σ 94 (ix ((30 + (σ 93 (ix 1))) - 1))))) + (σ 95 (ix ((30 + (σ 93 (ix 1))) - 1))))) + 1)))), (2, .int (5 * ((σ 85 (ix (σ 94 (ix ((30 + (σ 93 (ix 1))) - 1))))) + (σ 95 (ix ((30 + (σ 93 (ix 1))) - 1)))))), (1, .int ((30 + (σ 93 (ix 1))) - 1)), (0, .ref (ga g 59))]) hx hb dX12_stepRegisters_81 hl (by decide) rfl (fun ls hl => ?_)
    refine lv_aload_n hx hb dX12_stepRegisters_83 rfl (lv_at hl 6 rfl) ?_
    refine gf_59_45 hx hb ht hK hI mw_790 (fun _ h9 => h9) hown dX12_stepRegisters_84 ?_
    refine lv_iload_n hx hb dX12_stepRegisters_87 rfl (lv_at hl 5 rfl) ?_
    refine lv_dup2_11 hx hb dX12_stepRegisters_88 rfl rfl ?_
    obtain ⟨g10, hm⟩ := gb_some hm
    refine ld_95 hx hb hK hI g10 (v := σ 95 (ix ((30 + (σ 93 (ix 1))) - 1))) rfl dX12_stepRegisters_89 ?_
    refine lv_iconst (v := 1) hx hb dX12_stepRegisters_90 (by decide) ?_
    refine lv_iadd hx hb dX12_stepRegisters_91 ?_
    obtain ⟨g11, hm⟩ := gb_some hm
    refine sv_95 hx hb hK hI g11 dX12_stepRegisters_92 (fun H locs hI => ?_)
    refine lv_aload_n hx hb dX12_stepRegisters_93 rfl (lv_at hl 6 rfl) ?_
    refine gf_59_41 hx hb ht hK hI mw_786 (fun _ h9 => h9) hown dX12_stepRegisters_94 ?_
    refine lv_iconst (v := 1) hx hb dX12_stepRegisters_97 (by decide) ?_
    refine lv_dup2_11 hx hb dX12_stepRegisters_98 rfl rfl ?_
    obtain ⟨g12, hm⟩ := gb_some hm
    refine ld_91 hx hb hK hI g12 (v := σ 91 (ix 1)) rfl dX12_stepRegisters_99 ?_
    refine lv_iconst (v := 1) hx hb dX12_stepRegisters_100 (by decide) ?_
    refine lv_iadd hx hb dX12_stepRegisters_101 ?_
    obtain ⟨g13, hm⟩ := gb_some hm
    refine sv_91 hx hb hK hI g13 dX12_stepRegisters_102 (fun H locs hI => ?_)
    refine lv_aload_n hx hb dX12_stepRegisters_103 rfl (lv_at hl 6 rfl) ?_
    refine gf_59_31 hx hb ht hK hI mw_779 (fun _ h9 => h9) hown dX12_stepRegisters_104 ?_
    refine lv_iload_n hx hb dX12_stepRegisters_107 rfl (lv_at hl 4 rfl) ?_
    obtain ⟨g14, hm⟩ := gb_some hm
    refine ld_84 hx hb hK hI g14 (v := σ 84 (ix (5 * ((σ 85 (ix (σ 94 (ix ((30 + (σ 93 (ix 1))) - 1))))) + (σ 95 (ix ((30 + (σ 93 (ix 1))) - 1))))))) rfl dX12_stepRegisters_108 ?_
    by_cases c15 : (σ 84 (ix (5 * ((σ 85 (ix (σ 94 (ix ((30 + (σ 93 (ix 1))) - 1))))) + (σ 95 (ix ((30 + (σ 93 (ix 1))) - 1))))))) = 0
    · have hm := (if_pos c15).symm.trans hm
      refine lv_tableIn (off := 51) (tgt := 160) hx hb dX12_stepRegisters_109 (by (rw [c15]; decide)) (by (rw [c15]; decide)) (by (rw [c15]; rfl)) (by decide) ?_
      refine lv_aload_n hx hb dX12_stepRegisters_160 rfl (lv_at hl 6 rfl) ?_
      refine gf_59_46 hx hb ht hK hI mw_791 (fun _ h9 => h9) hown dX12_stepRegisters_161 ?_
      refine lv_iload hx hb dX12_stepRegisters_164 (lv_at hl 0 rfl) ?_
      refine lv_iload_n hx hb dX12_stepRegisters_166 rfl (lv_at hl 3 rfl) ?_
      refine lv_iadd hx hb dX12_stepRegisters_167 ?_
      refine lv_iload hx hb dX12_stepRegisters_168 (lv_at hl 2 rfl) ?_
      obtain ⟨g16, hm⟩ := gb_some hm
      refine sv_96 hx hb hK hI g16 dX12_stepRegisters_170 (fun H locs hI => ?_)
      exact hR _ _ _ _ _ hm hI dX12_stepRegisters_171
    have hm := (if_neg c15).symm.trans hm
    by_cases c17 : (σ 84 (ix (5 * ((σ 85 (ix (σ 94 (ix ((30 + (σ 93 (ix 1))) - 1))))) + (σ 95 (ix ((30 + (σ 93 (ix 1))) - 1))))))) = 1
    · have hm := (if_pos c17).symm.trans hm
      refine lv_tableIn (off := 63) (tgt := 172) hx hb dX12_stepRegisters_109 (by (rw [c17]; decide)) (by (rw [c17]; decide)) (by (rw [c17]; rfl)) (by decide) ?_
      refine lv_aload_n hx hb dX12_stepRegisters_172 rfl (lv_at hl 6 rfl) ?_
      refine gf_59_46 hx hb ht hK hI mw_791 (fun _ h9 => h9) hown dX12_stepRegisters_173 ?_
      refine lv_iload hx hb dX12_stepRegisters_176 (lv_at hl 0 rfl) ?_
      refine lv_iload_n hx hb dX12_stepRegisters_178 rfl (lv_at hl 3 rfl) ?_
      refine lv_iadd hx hb dX12_stepRegisters_179 ?_
      refine lv_aload_n hx hb dX12_stepRegisters_180 rfl (lv_at hl 6 rfl) ?_
      refine gf_59_46 hx hb ht hK hI mw_791 (fun _ h9 => h9) hown dX12_stepRegisters_181 ?_
      refine lv_iload hx hb dX12_stepRegisters_184 (lv_at hl 0 rfl) ?_
      refine lv_iload hx hb dX12_stepRegisters_186 (lv_at hl 2 rfl) ?_
      refine lv_iadd hx hb dX12_stepRegisters_188 ?_
      obtain ⟨g18, hm⟩ := gb_some hm
      refine ld_96 hx hb hK hI g18 (v := σ 96 (ix ((24 * ((30 + (σ 93 (ix 1))) - 1)) + (σ 84 (ix ((5 * ((σ 85 (ix (σ 94 (ix ((30 + (σ 93 (ix 1))) - 1))))) + (σ 95 (ix ((30 + (σ 93 (ix 1))) - 1))))) + 2)))))) rfl dX12_stepRegisters_189 ?_
      obtain ⟨g19, hm⟩ := gb_some hm
      refine sv_96 hx hb hK hI g19 dX12_stepRegisters_190 (fun H locs hI => ?_)
      exact hR _ _ _ _ _ hm hI dX12_stepRegisters_191
    have hm := (if_neg c17).symm.trans hm
    by_cases c20 : (σ 84 (ix (5 * ((σ 85 (ix (σ 94 (ix ((30 + (σ 93 (ix 1))) - 1))))) + (σ 95 (ix ((30 + (σ 93 (ix 1))) - 1))))))) = 2
    · have hm := (if_pos c20).symm.trans hm
      refine lv_tableIn (off := 83) (tgt := 192) hx hb dX12_stepRegisters_109 (by (rw [c20]; decide)) (by (rw [c20]; decide)) (by (rw [c20]; rfl)) (by decide) ?_
      refine lv_aload_n hx hb dX12_stepRegisters_192 rfl (lv_at hl 6 rfl) ?_
      refine gf_59_31 hx hb ht hK hI mw_779 (fun _ h9 => h9) hown dX12_stepRegisters_193 ?_
      refine lv_iload_n hx hb dX12_stepRegisters_196 rfl (lv_at hl 4 rfl) ?_
      refine lv_iconst (v := 4) hx hb dX12_stepRegisters_197 (by decide) ?_
      refine lv_iadd hx hb dX12_stepRegisters_198 ?_
      obtain ⟨g21, hm⟩ := gb_some hm
      refine ld_84 hx hb hK hI g21 (v := σ 84 (ix ((5 * ((σ 85 (ix (σ 94 (ix ((30 + (σ 93 (ix 1))) - 1))))) + (σ 95 (ix ((30 + (σ 93 (ix 1))) - 1))))) + 4))) rfl dX12_stepRegisters_199 ?_
      refine lv_bipush (v := 6) hx hb dX12_stepRegisters_200 (by decide) ?_
      refine lv_icmp_ne (tgt := 225) hx hb dX12_stepRegisters_202 (by decide) (fun c22 => ?_) (fun c22 => ?_)
      · have hm := (if_neg c22).symm.trans hm
        refine lv_aload_n hx hb dX12_stepRegisters_225 rfl (lv_at hl 6 rfl) ?_
        refine gf_59_46 hx hb ht hK hI mw_791 (fun _ h9 => h9) hown dX12_stepRegisters_226 ?_
        refine lv_iload hx hb dX12_stepRegisters_229 (lv_at hl 0 rfl) ?_
        refine lv_iload_n hx hb dX12_stepRegisters_231 rfl (lv_at hl 3 rfl) ?_
        refine lv_iadd hx hb dX12_stepRegisters_232 ?_
        refine lv_aload_n hx hb dX12_stepRegisters_233 rfl (lv_at hl 6 rfl) ?_
        refine lv_aload_n hx hb dX12_stepRegisters_234 rfl (lv_at hl 6 rfl) ?_
        refine gf_59_31 hx hb ht hK hI mw_779 (fun _ h9 => h9) hown dX12_stepRegisters_235 ?_
        refine lv_iload_n hx hb dX12_stepRegisters_238 rfl (lv_at hl 4 rfl) ?_
        refine lv_iconst (v := 4) hx hb dX12_stepRegisters_239 (by decide) ?_
        refine lv_iadd hx hb dX12_stepRegisters_240 ?_
        obtain ⟨g23, hm⟩ := gb_some hm
        refine ld_84 hx hb hK hI g23 (v := σ 84 (ix ((5 * ((σ 85 (ix (σ 94 (ix ((30 + (σ 93 (ix 1))) - 1))))) + (σ 95 (ix ((30 + (σ 93 (ix 1))) - 1))))) + 4))) rfl dX12_stepRegisters_241 ?_
        refine lv_aload_n hx hb dX12_stepRegisters_242 rfl (lv_at hl 6 rfl) ?_
        refine gf_59_46 hx hb ht hK hI mw_791 (fun _ h9 => h9) hown dX12_stepRegisters_243 ?_
        refine lv_iload hx hb dX12_stepRegisters_246 (lv_at hl 0 rfl) ?_
        refine lv_iload hx hb dX12_stepRegisters_248 (lv_at hl 2 rfl) ?_
        refine lv_iadd hx hb dX12_stepRegisters_250 ?_
        obtain ⟨g24, hm⟩ := gb_some hm
        refine ld_96 hx hb hK hI g24 (v := σ 96 (ix ((24 * ((30 + (σ 93 (ix 1))) - 1)) + (σ 84 (ix ((5 * ((σ 85 (ix (σ 94 (ix ((30 + (σ 93 (ix 1))) - 1))))) + (σ 95 (ix ((30 + (σ 93 (ix 1))) - 1))))) + 2)))))) rfl dX12_stepRegisters_251 ?_
        refine lv_aload_n hx hb dX12_stepRegisters_252 rfl (lv_at hl 6 rfl) ?_
        refine gf_59_46 hx hb ht hK hI mw_791 (fun _ h9 => h9) hown dX12_stepRegisters_253 ?_
        refine lv_iload hx hb dX12_stepRegisters_256 (lv_at hl 0 rfl) ?_
        refine lv_iload hx hb dX12_stepRegisters_258 (lv_at hl 1 rfl) ?_
        refine lv_iadd hx hb dX12_stepRegisters_260 ?_
        obtain ⟨g25, hm⟩ := gb_some hm
        refine ld_96 hx hb hK hI g25 (v := σ 96 (ix ((24 * ((30 + (σ 93 (ix 1))) - 1)) + (σ 84 (ix ((5 * ((σ 85 (ix (σ 94 (ix ((30 + (σ 93 (ix 1))) - 1))))) + (σ 95 (ix ((30 + (σ 93 (ix 1))) - 1))))) + 3)))))) rfl dX12_stepRegisters_261 ?_
        obtain ⟨r26, σ27, h28, hm⟩ := bd_some hm
        refine k_i hI hA (va_runV (As := [.int (σ 84 (ix ((5 * ((σ 85 (ix (σ 94 (ix ((30 + (σ 93 (ix 1))) - 1))))) + (σ 95 (ix ((30 + (σ 93 (ix 1))) - 1))))) + 4))), .int (σ 96 (ix ((24 * ((30 + (σ 93 (ix 1))) - 1)) + (σ 84 (ix ((5 * ((σ 85 (ix (σ 94 (ix ((30 + (σ 93 (ix 1))) - 1))))) + (σ 95 (ix ((30 + (σ 93 (ix 1))) - 1))))) + 2)))))), .int (σ 96 (ix ((24 * ((30 + (σ 93 (ix 1))) - 1)) + (σ 84 (ix ((5 * ((σ 85 (ix (σ 94 (ix ((30 + (σ 93 (ix 1))) - 1))))) + (σ 95 (ix ((30 + (σ 93 (ix 1))) - 1))))) + 3))))))]) (rest := [.int ((24 * ((30 + (σ 93 (ix 1))) - 1)) + (σ 84 (ix ((5 * ((σ 85 (ix (σ 94 (ix ((30 + (σ 93 (ix 1))) - 1))))) + (σ 95 (ix ((30 + (σ 93 (ix 1))) - 1))))) + 1)))), .ref (ga g 96)]) hX (c_X12_works N n h28 _) (cwV 3 ht (in_V mw_1034 mw_1035 mw_1036 mw_861 mw_1019) rfl rfl rfl pd_X12_works ⟨Nat.le_of_ble_eq_true rfl, Nat.le_of_ble_eq_true rfl⟩) ⟨q_blind, va_recv hK hI.1 (ci := 11) (q0 := 59) rfl rfl, q_to hI hK hN hZ hA⟩ rfl rfl hl.1 rfl (lv_room (Nat.le_of_ble_eq_true rfl)) dX12_stepRegisters_262 (by decide)) (fun H locs hI => ?_)
        obtain ⟨g29, hm⟩ := gb_some hm
        refine sv_96 hx hb hK hI g29 dX12_stepRegisters_265 (fun H locs hI => ?_)
        exact hR _ _ _ _ _ hm hI dX12_stepRegisters_266
      · have hm := (if_pos c22).symm.trans hm
        refine lv_aload_n hx hb dX12_stepRegisters_205 rfl (lv_at hl 6 rfl) ?_
        refine gf_59_46 hx hb ht hK hI mw_791 (fun _ h9 => h9) hown dX12_stepRegisters_206 ?_
        refine lv_iload hx hb dX12_stepRegisters_209 (lv_at hl 0 rfl) ?_
        refine lv_iload hx hb dX12_stepRegisters_211 (lv_at hl 1 rfl) ?_
        refine lv_iadd hx hb dX12_stepRegisters_213 ?_
        obtain ⟨g30, hm⟩ := gb_some hm
        refine ld_96 hx hb hK hI g30 (v := σ 96 (ix ((24 * ((30 + (σ 93 (ix 1))) - 1)) + (σ 84 (ix ((5 * ((σ 85 (ix (σ 94 (ix ((30 + (σ 93 (ix 1))) - 1))))) + (σ 95 (ix ((30 + (σ 93 (ix 1))) - 1))))) + 3)))))) rfl dX12_stepRegisters_214 ?_
        refine lv_if_ne (tgt := 225) hx hb dX12_stepRegisters_215 (by decide) (fun c31 => ?_) (fun c31 => ?_)
        · have hm := (if_neg c31).symm.trans hm
          refine lv_aload_n hx hb dX12_stepRegisters_225 rfl (lv_at hl 6 rfl) ?_
          refine gf_59_46 hx hb ht hK hI mw_791 (fun _ h9 => h9) hown dX12_stepRegisters_226 ?_
          refine lv_iload hx hb dX12_stepRegisters_229 (lv_at hl 0 rfl) ?_
          refine lv_iload_n hx hb dX12_stepRegisters_231 rfl (lv_at hl 3 rfl) ?_
          refine lv_iadd hx hb dX12_stepRegisters_232 ?_
          refine lv_aload_n hx hb dX12_stepRegisters_233 rfl (lv_at hl 6 rfl) ?_
          refine lv_aload_n hx hb dX12_stepRegisters_234 rfl (lv_at hl 6 rfl) ?_
          refine gf_59_31 hx hb ht hK hI mw_779 (fun _ h9 => h9) hown dX12_stepRegisters_235 ?_
          refine lv_iload_n hx hb dX12_stepRegisters_238 rfl (lv_at hl 4 rfl) ?_
          refine lv_iconst (v := 4) hx hb dX12_stepRegisters_239 (by decide) ?_
          refine lv_iadd hx hb dX12_stepRegisters_240 ?_
          obtain ⟨g32, hm⟩ := gb_some hm
          refine ld_84 hx hb hK hI g32 (v := σ 84 (ix ((5 * ((σ 85 (ix (σ 94 (ix ((30 + (σ 93 (ix 1))) - 1))))) + (σ 95 (ix ((30 + (σ 93 (ix 1))) - 1))))) + 4))) rfl dX12_stepRegisters_241 ?_
          refine lv_aload_n hx hb dX12_stepRegisters_242 rfl (lv_at hl 6 rfl) ?_
          refine gf_59_46 hx hb ht hK hI mw_791 (fun _ h9 => h9) hown dX12_stepRegisters_243 ?_
          refine lv_iload hx hb dX12_stepRegisters_246 (lv_at hl 0 rfl) ?_
          refine lv_iload hx hb dX12_stepRegisters_248 (lv_at hl 2 rfl) ?_
          refine lv_iadd hx hb dX12_stepRegisters_250 ?_
          obtain ⟨g33, hm⟩ := gb_some hm
          refine ld_96 hx hb hK hI g33 (v := σ 96 (ix ((24 * ((30 + (σ 93 (ix 1))) - 1)) + (σ 84 (ix ((5 * ((σ 85 (ix (σ 94 (ix ((30 + (σ 93 (ix 1))) - 1))))) + (σ 95 (ix ((30 + (σ 93 (ix 1))) - 1))))) + 2)))))) rfl dX12_stepRegisters_251 ?_
          refine lv_aload_n hx hb dX12_stepRegisters_252 rfl (lv_at hl 6 rfl) ?_
          refine gf_59_46 hx hb ht hK hI mw_791 (fun _ h9 => h9) hown dX12_stepRegisters_253 ?_
          refine lv_iload hx hb dX12_stepRegisters_256 (lv_at hl 0 rfl) ?_
          refine lv_iload hx hb dX12_stepRegisters_258 (lv_at hl 1 rfl) ?_
          refine lv_iadd hx hb dX12_stepRegisters_260 ?_
          obtain ⟨g34, hm⟩ := gb_some hm
          refine ld_96 hx hb hK hI g34 (v := σ 96 (ix ((24 * ((30 + (σ 93 (ix 1))) - 1)) + (σ 84 (ix ((5 * ((σ 85 (ix (σ 94 (ix ((30 + (σ 93 (ix 1))) - 1))))) + (σ 95 (ix ((30 + (σ 93 (ix 1))) - 1))))) + 3)))))) rfl dX12_stepRegisters_261 ?_
          obtain ⟨r35, σ36, h37, hm⟩ := bd_some hm
          refine k_i hI hA (va_runV (As := [.int (σ 84 (ix ((5 * ((σ 85 (ix (σ 94 (ix ((30 + (σ 93 (ix 1))) - 1))))) + (σ 95 (ix ((30 + (σ 93 (ix 1))) - 1))))) + 4))), .int (σ 96 (ix ((24 * ((30 + (σ 93 (ix 1))) - 1)) + (σ 84 (ix ((5 * ((σ 85 (ix (σ 94 (ix ((30 + (σ 93 (ix 1))) - 1))))) + (σ 95 (ix ((30 + (σ 93 (ix 1))) - 1))))) + 2)))))), .int (σ 96 (ix ((24 * ((30 + (σ 93 (ix 1))) - 1)) + (σ 84 (ix ((5 * ((σ 85 (ix (σ 94 (ix ((30 + (σ 93 (ix 1))) - 1))))) + (σ 95 (ix ((30 + (σ 93 (ix 1))) - 1))))) + 3))))))]) (rest := [.int ((24 * ((30 + (σ 93 (ix 1))) - 1)) + (σ 84 (ix ((5 * ((σ 85 (ix (σ 94 (ix ((30 + (σ 93 (ix 1))) - 1))))) + (σ 95 (ix ((30 + (σ 93 (ix 1))) - 1))))) + 1)))), .ref (ga g 96)]) hX (c_X12_works N n h37 _) (cwV 3 ht (in_V mw_1034 mw_1035 mw_1036 mw_861 mw_1019) rfl rfl rfl pd_X12_works ⟨Nat.le_of_ble_eq_true rfl, Nat.le_of_ble_eq_true rfl⟩) ⟨q_blind, va_recv hK hI.1 (ci := 11) (q0 := 59) rfl rfl, q_to hI hK hN hZ hA⟩ rfl rfl hl.1 rfl (lv_room (Nat.le_of_ble_eq_true rfl)) dX12_stepRegisters_262 (by decide)) (fun H locs hI => ?_)
          obtain ⟨g38, hm⟩ := gb_some hm
          refine sv_96 hx hb hK hI g38 dX12_stepRegisters_265 (fun H locs hI => ?_)
          exact hR _ _ _ _ _ hm hI dX12_stepRegisters_266
        · have hm := (if_pos c31).symm.trans hm
          refine lv_aload_n hx hb dX12_stepRegisters_218 rfl (lv_at hl 6 rfl) ?_
          refine lv_iconst (v := 1) hx hb dX12_stepRegisters_219 (by decide) ?_
          refine lv_iconst (v := 2) hx hb dX12_stepRegisters_220 (by decide) ?_
          obtain ⟨r39, σ40, h41, hm⟩ := bd_some hm
          refine k_v hI hA (va_runV (As := [.int 1, .int 2]) (rest := []) hX (c_X12_ends N n h41 _) (cwV 2 ht (in_V mw_1012 mw_1013 mw_1014 mw_861 mw_1009) rfl rfl rfl pd_X12_ends ⟨Nat.le_of_ble_eq_true rfl, Nat.le_of_ble_eq_true rfl⟩) ⟨q_blind, va_recv hK hI.1 (ci := 11) (q0 := 59) rfl rfl, q_to hI hK hN hZ hA⟩ rfl rfl hl.1 rfl (lv_room (Nat.le_of_ble_eq_true rfl)) dX12_stepRegisters_221 (by decide)) (fun H locs hI => ?_)
          exact hR _ _ _ _ _ hm hI dX12_stepRegisters_224
    have hm := (if_neg c20).symm.trans hm
    by_cases c42 : (σ 84 (ix (5 * ((σ 85 (ix (σ 94 (ix ((30 + (σ 93 (ix 1))) - 1))))) + (σ 95 (ix ((30 + (σ 93 (ix 1))) - 1))))))) = 3
    · have hm := (if_pos c42).symm.trans hm
      refine lv_tableIn (off := 158) (tgt := 267) hx hb dX12_stepRegisters_109 (by (rw [c42]; decide)) (by (rw [c42]; decide)) (by (rw [c42]; rfl)) (by decide) ?_
      refine lv_aload_n hx hb dX12_stepRegisters_267 rfl (lv_at hl 6 rfl) ?_
      refine gf_59_46 hx hb ht hK hI mw_791 (fun _ h9 => h9) hown dX12_stepRegisters_268 ?_
      refine lv_iload hx hb dX12_stepRegisters_271 (lv_at hl 0 rfl) ?_
      refine lv_iload_n hx hb dX12_stepRegisters_273 rfl (lv_at hl 3 rfl) ?_
      refine lv_iadd hx hb dX12_stepRegisters_274 ?_
      obtain ⟨g43, hm⟩ := gb_some hm
      refine ld_96 hx hb hK hI g43 (v := σ 96 (ix ((24 * ((30 + (σ 93 (ix 1))) - 1)) + (σ 84 (ix ((5 * ((σ 85 (ix (σ 94 (ix ((30 + (σ 93 (ix 1))) - 1))))) + (σ 95 (ix ((30 + (σ 93 (ix 1))) - 1))))) + 1)))))) rfl dX12_stepRegisters_275 ?_
      refine lv_istore (lv' := [(7, .int (σ 96 (ix ((24 * ((30 + (σ 93 (ix 1))) - 1)) + (σ 84 (ix ((5 * ((σ 85 (ix (σ 94 (ix ((30 + (σ 93 (ix 1))) - 1))))) + (σ 95 (ix ((30 + (σ 93 (ix 1))) - 1))))) + 1))))))), (6, .int (24 * ((30 + (σ 93 (ix 1))) - 1))), (5, .int (σ 84 (ix ((5 * ((σ 85 (ix (σ 94 (ix ((30 + (σ 93 (ix 1))) - 1))))) + (σ 95 (ix ((30 + (σ 93 (ix 1))) - 1))))) + 3)))), (4, .int (σ 84 (ix ((5 * ((σ 85 (ix (σ 94 (ix ((30 + (σ 93 (ix 1))) - 1))))) + (σ 95 (ix ((30 + (σ 93 (ix 1))) - 1))))) + 2)))), (3, .int (σ 84 (ix ((5 * ((σ 85 (ix (σ 94 (ix ((30 + (σ 93 (ix 1))) - 1))))) + (σ 95 (ix ((30 + (σ 93 (ix 1))) - 1))))) + 1)))), (2, .int (5 * ((σ 85 (ix (σ 94 (ix ((30 + (σ 93 (ix 1))) - 1))))) + (σ 95 (ix ((30 + (σ 93 (ix 1))) - 1)))))), (1, .int ((30 + (σ 93 (ix 1))) - 1)), (0, .ref (ga g 59))]) hx hb dX12_stepRegisters_276 hl (by decide) rfl (fun ls hl => ?_)
      refine lv_aload_n hx hb dX12_stepRegisters_278 rfl (lv_at hl 7 rfl) ?_
      refine gf_59_46 hx hb ht hK hI mw_791 (fun _ h9 => h9) hown dX12_stepRegisters_279 ?_
      refine lv_iload hx hb dX12_stepRegisters_282 (lv_at hl 1 rfl) ?_
      refine lv_iload_n hx hb dX12_stepRegisters_284 rfl (lv_at hl 4 rfl) ?_
      refine lv_iadd hx hb dX12_stepRegisters_285 ?_
      refine lv_aload_n hx hb dX12_stepRegisters_286 rfl (lv_at hl 7 rfl) ?_
      refine gf_59_46 hx hb ht hK hI mw_791 (fun _ h9 => h9) hown dX12_stepRegisters_287 ?_
      refine lv_iload hx hb dX12_stepRegisters_290 (lv_at hl 1 rfl) ?_
      refine lv_iload hx hb dX12_stepRegisters_292 (lv_at hl 3 rfl) ?_
      refine lv_iadd hx hb dX12_stepRegisters_294 ?_
      obtain ⟨g44, hm⟩ := gb_some hm
      refine ld_96 hx hb hK hI g44 (v := σ 96 (ix ((24 * ((30 + (σ 93 (ix 1))) - 1)) + (σ 84 (ix ((5 * ((σ 85 (ix (σ 94 (ix ((30 + (σ 93 (ix 1))) - 1))))) + (σ 95 (ix ((30 + (σ 93 (ix 1))) - 1))))) + 2)))))) rfl dX12_stepRegisters_295 ?_
      obtain ⟨g45, hm⟩ := gb_some hm
      refine sv_96 hx hb hK hI g45 dX12_stepRegisters_296 (fun H locs hI => ?_)
      refine lv_aload_n hx hb dX12_stepRegisters_297 rfl (lv_at hl 7 rfl) ?_
      refine gf_59_46 hx hb ht hK hI mw_791 (fun _ h9 => h9) hown dX12_stepRegisters_298 ?_
      refine lv_iload hx hb dX12_stepRegisters_301 (lv_at hl 1 rfl) ?_
      refine lv_iload hx hb dX12_stepRegisters_303 (lv_at hl 3 rfl) ?_
      refine lv_iadd hx hb dX12_stepRegisters_305 ?_
      refine lv_iload hx hb dX12_stepRegisters_306 (lv_at hl 0 rfl) ?_
      obtain ⟨g46, hm⟩ := gb_some hm
      refine sv_96 hx hb hK hI g46 dX12_stepRegisters_308 (fun H locs hI => ?_)
      exact hR _ _ _ _ _ hm hI dX12_stepRegisters_309
    have hm := (if_neg c42).symm.trans hm
    by_cases c47 : (σ 84 (ix (5 * ((σ 85 (ix (σ 94 (ix ((30 + (σ 93 (ix 1))) - 1))))) + (σ 95 (ix ((30 + (σ 93 (ix 1))) - 1))))))) = 4
    · have hm := (if_pos c47).symm.trans hm
      refine lv_tableIn (off := 201) (tgt := 310) hx hb dX12_stepRegisters_109 (by (rw [c47]; decide)) (by (rw [c47]; decide)) (by (rw [c47]; rfl)) (by decide) ?_
      refine lv_aload_n hx hb dX12_stepRegisters_310 rfl (lv_at hl 6 rfl) ?_
      refine gf_59_45 hx hb ht hK hI mw_790 (fun _ h9 => h9) hown dX12_stepRegisters_311 ?_
      refine lv_iload_n hx hb dX12_stepRegisters_314 rfl (lv_at hl 5 rfl) ?_
      refine lv_iload_n hx hb dX12_stepRegisters_315 rfl (lv_at hl 3 rfl) ?_
      obtain ⟨g48, hm⟩ := gb_some hm
      refine sv_95 hx hb hK hI g48 dX12_stepRegisters_316 (fun H locs hI => ?_)
      exact hR _ _ _ _ _ hm hI dX12_stepRegisters_317
    have hm := (if_neg c47).symm.trans hm
    by_cases c49 : (σ 84 (ix (5 * ((σ 85 (ix (σ 94 (ix ((30 + (σ 93 (ix 1))) - 1))))) + (σ 95 (ix ((30 + (σ 93 (ix 1))) - 1))))))) = 5
    · have hm := (if_pos c49).symm.trans hm
      refine lv_tableIn (off := 209) (tgt := 318) hx hb dX12_stepRegisters_109 (by (rw [c49]; decide)) (by (rw [c49]; decide)) (by (rw [c49]; rfl)) (by decide) ?_
      refine lv_aload_n hx hb dX12_stepRegisters_318 rfl (lv_at hl 6 rfl) ?_
      refine gf_59_45 hx hb ht hK hI mw_790 (fun _ h9 => h9) hown dX12_stepRegisters_319 ?_
      refine lv_iload_n hx hb dX12_stepRegisters_322 rfl (lv_at hl 5 rfl) ?_
      refine lv_aload_n hx hb dX12_stepRegisters_323 rfl (lv_at hl 6 rfl) ?_
      refine gf_59_46 hx hb ht hK hI mw_791 (fun _ h9 => h9) hown dX12_stepRegisters_324 ?_
      refine lv_iload hx hb dX12_stepRegisters_327 (lv_at hl 0 rfl) ?_
      refine lv_iload_n hx hb dX12_stepRegisters_329 rfl (lv_at hl 3 rfl) ?_
      refine lv_iadd hx hb dX12_stepRegisters_330 ?_
      obtain ⟨g50, hm⟩ := gb_some hm
      refine ld_96 hx hb hK hI g50 (v := σ 96 (ix ((24 * ((30 + (σ 93 (ix 1))) - 1)) + (σ 84 (ix ((5 * ((σ 85 (ix (σ 94 (ix ((30 + (σ 93 (ix 1))) - 1))))) + (σ 95 (ix ((30 + (σ 93 (ix 1))) - 1))))) + 1)))))) rfl dX12_stepRegisters_331 ?_
      refine lv_if_ne (tgt := 340) hx hb dX12_stepRegisters_332 (by decide) (fun c51 => ?_) (fun c51 => ?_)
      · have hm := (if_neg c51).symm.trans hm
        refine lv_aload_n hx hb dX12_stepRegisters_340 rfl (lv_at hl 6 rfl) ?_
        refine gf_59_45 hx hb ht hK hI mw_790 (fun _ h9 => h9) hown dX12_stepRegisters_341 ?_
        refine lv_iload_n hx hb dX12_stepRegisters_344 rfl (lv_at hl 5 rfl) ?_
        obtain ⟨g52, hm⟩ := gb_some hm
        refine ld_95 hx hb hK hI g52 (v := (σ 95 (ix ((30 + (σ 93 (ix 1))) - 1))) + 1) (show upd (σ 95) (ix ((30 + (σ 93 (ix 1))) - 1)) ((σ 95 (ix ((30 + (σ 93 (ix 1))) - 1))) + 1) (ix ((30 + (σ 93 (ix 1))) - 1)) = (σ 95 (ix ((30 + (σ 93 (ix 1))) - 1))) + 1 from up_same _ _ _) dX12_stepRegisters_345 ?_
        obtain ⟨g53, hm⟩ := gb_some hm
        refine sv_95 hx hb hK hI g53 dX12_stepRegisters_346 (fun H locs hI => ?_)
        exact hR _ _ _ _ _ hm hI dX12_stepRegisters_347
      · have hm := (if_pos c51).symm.trans hm
        refine lv_iload hx hb dX12_stepRegisters_335 (lv_at hl 2 rfl) ?_
        refine lv_goto (tgt := 346) hx hb dX12_stepRegisters_337 (by decide) ?_
        obtain ⟨g54, hm⟩ := gb_some hm
        refine sv_95 hx hb hK hI g54 dX12_stepRegisters_346 (fun H locs hI => ?_)
        exact hR _ _ _ _ _ hm hI dX12_stepRegisters_347
    have hm := (if_neg c49).symm.trans hm
    by_cases c55 : (σ 84 (ix (5 * ((σ 85 (ix (σ 94 (ix ((30 + (σ 93 (ix 1))) - 1))))) + (σ 95 (ix ((30 + (σ 93 (ix 1))) - 1))))))) = 6
    · have hm := (if_pos c55).symm.trans hm
      refine lv_tableIn (off := 239) (tgt := 348) hx hb dX12_stepRegisters_109 (by (rw [c55]; decide)) (by (rw [c55]; decide)) (by (rw [c55]; rfl)) (by decide) ?_
      refine lv_aload_n hx hb dX12_stepRegisters_348 rfl (lv_at hl 6 rfl) ?_
      refine lv_iconst (v := 1) hx hb dX12_stepRegisters_349 (by decide) ?_
      refine lv_aload_n hx hb dX12_stepRegisters_350 rfl (lv_at hl 6 rfl) ?_
      refine gf_59_46 hx hb ht hK hI mw_791 (fun _ h9 => h9) hown dX12_stepRegisters_351 ?_
      refine lv_iload hx hb dX12_stepRegisters_354 (lv_at hl 0 rfl) ?_
      refine lv_iload_n hx hb dX12_stepRegisters_356 rfl (lv_at hl 3 rfl) ?_
      refine lv_iadd hx hb dX12_stepRegisters_357 ?_
      obtain ⟨g56, hm⟩ := gb_some hm
      refine ld_96 hx hb hK hI g56 (v := σ 96 (ix ((24 * ((30 + (σ 93 (ix 1))) - 1)) + (σ 84 (ix ((5 * ((σ 85 (ix (σ 94 (ix ((30 + (σ 93 (ix 1))) - 1))))) + (σ 95 (ix ((30 + (σ 93 (ix 1))) - 1))))) + 1)))))) rfl dX12_stepRegisters_358 ?_
      obtain ⟨r57, σ58, h59, hm⟩ := bd_some hm
      refine k_v hI hA (va_runV (As := [.int 1, .int (σ 96 (ix ((24 * ((30 + (σ 93 (ix 1))) - 1)) + (σ 84 (ix ((5 * ((σ 85 (ix (σ 94 (ix ((30 + (σ 93 (ix 1))) - 1))))) + (σ 95 (ix ((30 + (σ 93 (ix 1))) - 1))))) + 1))))))]) (rest := []) hX (c_X12_over N n h59 _) (cwV 2 ht (in_V mw_1043 mw_1044 mw_1045 mw_861 mw_1011) rfl rfl rfl pd_X12_over ⟨Nat.le_of_ble_eq_true rfl, Nat.le_of_ble_eq_true rfl⟩) ⟨q_blind, va_recv hK hI.1 (ci := 11) (q0 := 59) rfl rfl, q_to hI hK hN hZ hA⟩ rfl rfl hl.1 rfl (lv_room (Nat.le_of_ble_eq_true rfl)) dX12_stepRegisters_359 (by decide)) (fun H locs hI => ?_)
      exact hR _ _ _ _ _ hm hI dX12_stepRegisters_362
    have hm := (if_neg c55).symm.trans hm
    by_cases c60 : (σ 84 (ix (5 * ((σ 85 (ix (σ 94 (ix ((30 + (σ 93 (ix 1))) - 1))))) + (σ 95 (ix ((30 + (σ 93 (ix 1))) - 1))))))) = 7
    · have hm := (if_pos c60).symm.trans hm
      refine lv_tableIn (off := 254) (tgt := 363) hx hb dX12_stepRegisters_109 (by (rw [c60]; decide)) (by (rw [c60]; decide)) (by (rw [c60]; rfl)) (by decide) ?_
      refine lv_aload_n hx hb dX12_stepRegisters_363 rfl (lv_at hl 6 rfl) ?_
      refine gf_59_46 hx hb ht hK hI mw_791 (fun _ h9 => h9) hown dX12_stepRegisters_364 ?_
      refine lv_iload hx hb dX12_stepRegisters_367 (lv_at hl 0 rfl) ?_
      refine lv_iload hx hb dX12_stepRegisters_369 (lv_at hl 2 rfl) ?_
      refine lv_iadd hx hb dX12_stepRegisters_371 ?_
      obtain ⟨g61, hm⟩ := gb_some hm
      refine ld_96 hx hb hK hI g61 (v := σ 96 (ix ((24 * ((30 + (σ 93 (ix 1))) - 1)) + (σ 84 (ix ((5 * ((σ 85 (ix (σ 94 (ix ((30 + (σ 93 (ix 1))) - 1))))) + (σ 95 (ix ((30 + (σ 93 (ix 1))) - 1))))) + 2)))))) rfl dX12_stepRegisters_372 ?_
      obtain ⟨r62, σ63, h64, hm⟩ := bd_some hm
      refine k_i hI hA (va_runS (As := [.int (σ 96 (ix ((24 * ((30 + (σ 93 (ix 1))) - 1)) + (σ 84 (ix ((5 * ((σ 85 (ix (σ 94 (ix ((30 + (σ 93 (ix 1))) - 1))))) + (σ 95 (ix ((30 + (σ 93 (ix 1))) - 1))))) + 2))))))]) (rest := []) hX (c_X12_isCell N n h64 _) (va_cwS 1 ht (in_S mw_1030 mw_1031 mw_861 mw_1028) rfl rfl rfl pd_X12_isCell ⟨Nat.le_of_ble_eq_true rfl, Nat.le_of_ble_eq_true rfl⟩) ⟨q_blind, q_to hI hK hN hZ hA⟩ rfl rfl hl.1 rfl (lv_room (Nat.le_of_ble_eq_true rfl)) dX12_stepRegisters_373 (by decide)) (fun H locs hI => ?_)
      refine lv_if_ne (tgt := 386) hx hb dX12_stepRegisters_376 (by decide) (fun c65 => ?_) (fun c65 => ?_)
      · have hm := (if_neg c65).symm.trans hm
        refine lv_aload_n hx hb dX12_stepRegisters_386 rfl (lv_at hl 6 rfl) ?_
        refine gf_59_46 hx hb ht hK hI mw_791 (fun _ h9 => h9) hown dX12_stepRegisters_387 ?_
        refine lv_iload hx hb dX12_stepRegisters_390 (lv_at hl 0 rfl) ?_
        refine lv_iload_n hx hb dX12_stepRegisters_392 rfl (lv_at hl 3 rfl) ?_
        refine lv_iadd hx hb dX12_stepRegisters_393 ?_
        refine lv_aload_n hx hb dX12_stepRegisters_394 rfl (lv_at hl 6 rfl) ?_
        refine gf_59_38 hx hb ht hK hI mw_783 (fun _ h9 => h9) hown dX12_stepRegisters_395 ?_
        refine lv_bipush (v := 64) hx hb dX12_stepRegisters_398 (by decide) ?_
        refine lv_aload_n hx hb dX12_stepRegisters_400 rfl (lv_at hl 6 rfl) ?_
        refine gf_59_46 hx hb ht hK hI mw_791 (fun _ h9 => h9) hown dX12_stepRegisters_401 ?_
        refine lv_iload hx hb dX12_stepRegisters_404 (lv_at hl 0 rfl) ?_
        refine lv_iload hx hb dX12_stepRegisters_406 (lv_at hl 2 rfl) ?_
        refine lv_iadd hx hb dX12_stepRegisters_408 ?_
        obtain ⟨g66, hm⟩ := gb_some hm
        refine ld_96 hx hb hK hI g66 (v := σ63 96 (ix ((24 * ((30 + (σ 93 (ix 1))) - 1)) + (σ 84 (ix ((5 * ((σ 85 (ix (σ 94 (ix ((30 + (σ 93 (ix 1))) - 1))))) + (σ 95 (ix ((30 + (σ 93 (ix 1))) - 1))))) + 2)))))) rfl dX12_stepRegisters_409 ?_
        refine lv_iadd hx hb dX12_stepRegisters_410 ?_
        obtain ⟨g67, hm⟩ := gb_some hm
        refine ld_88 hx hb hK hI g67 (v := σ63 88 (ix (64 + (σ63 96 (ix ((24 * ((30 + (σ 93 (ix 1))) - 1)) + (σ 84 (ix ((5 * ((σ 85 (ix (σ 94 (ix ((30 + (σ 93 (ix 1))) - 1))))) + (σ 95 (ix ((30 + (σ 93 (ix 1))) - 1))))) + 2))))))))) rfl dX12_stepRegisters_411 ?_
        obtain ⟨g68, hm⟩ := gb_some hm
        refine sv_96 hx hb hK hI g68 dX12_stepRegisters_412 (fun H locs hI => ?_)
        exact hR _ _ _ _ _ hm hI dX12_stepRegisters_413
      · have hm := (if_pos c65).symm.trans hm
        refine lv_aload_n hx hb dX12_stepRegisters_379 rfl (lv_at hl 6 rfl) ?_
        refine lv_iconst (v := 1) hx hb dX12_stepRegisters_380 (by decide) ?_
        refine lv_iconst (v := 3) hx hb dX12_stepRegisters_381 (by decide) ?_
        obtain ⟨r69, σ70, h71, hm⟩ := bd_some hm
        refine k_v hI hA (va_runV (As := [.int 1, .int 3]) (rest := []) hX (c_X12_ends N n h71 _) (cwV 2 ht (in_V mw_1012 mw_1013 mw_1014 mw_861 mw_1009) rfl rfl rfl pd_X12_ends ⟨Nat.le_of_ble_eq_true rfl, Nat.le_of_ble_eq_true rfl⟩) ⟨q_blind, va_recv hK hI.1 (ci := 11) (q0 := 59) rfl rfl, q_to hI hK hN hZ hA⟩ rfl rfl hl.1 rfl (lv_room (Nat.le_of_ble_eq_true rfl)) dX12_stepRegisters_382 (by decide)) (fun H locs hI => ?_)
        exact hR _ _ _ _ _ hm hI dX12_stepRegisters_385
    have hm := (if_neg c60).symm.trans hm
    by_cases c72 : (σ 84 (ix (5 * ((σ 85 (ix (σ 94 (ix ((30 + (σ 93 (ix 1))) - 1))))) + (σ 95 (ix ((30 + (σ 93 (ix 1))) - 1))))))) = 8
    · have hm := (if_pos c72).symm.trans hm
      refine lv_tableIn (off := 305) (tgt := 414) hx hb dX12_stepRegisters_109 (by (rw [c72]; decide)) (by (rw [c72]; decide)) (by (rw [c72]; rfl)) (by decide) ?_
      refine lv_aload_n hx hb dX12_stepRegisters_414 rfl (lv_at hl 6 rfl) ?_
      refine gf_59_46 hx hb ht hK hI mw_791 (fun _ h9 => h9) hown dX12_stepRegisters_415 ?_
      refine lv_iload hx hb dX12_stepRegisters_418 (lv_at hl 0 rfl) ?_
      refine lv_iload_n hx hb dX12_stepRegisters_420 rfl (lv_at hl 3 rfl) ?_
      refine lv_iadd hx hb dX12_stepRegisters_421 ?_
      obtain ⟨g73, hm⟩ := gb_some hm
      refine ld_96 hx hb hK hI g73 (v := σ 96 (ix ((24 * ((30 + (σ 93 (ix 1))) - 1)) + (σ 84 (ix ((5 * ((σ 85 (ix (σ 94 (ix ((30 + (σ 93 (ix 1))) - 1))))) + (σ 95 (ix ((30 + (σ 93 (ix 1))) - 1))))) + 1)))))) rfl dX12_stepRegisters_422 ?_
      obtain ⟨r74, σ75, h76, hm⟩ := bd_some hm
      refine k_i hI hA (va_runS (As := [.int (σ 96 (ix ((24 * ((30 + (σ 93 (ix 1))) - 1)) + (σ 84 (ix ((5 * ((σ 85 (ix (σ 94 (ix ((30 + (σ 93 (ix 1))) - 1))))) + (σ 95 (ix ((30 + (σ 93 (ix 1))) - 1))))) + 1))))))]) (rest := []) hX (c_X12_isCell N n h76 _) (va_cwS 1 ht (in_S mw_1030 mw_1031 mw_861 mw_1028) rfl rfl rfl pd_X12_isCell ⟨Nat.le_of_ble_eq_true rfl, Nat.le_of_ble_eq_true rfl⟩) ⟨q_blind, q_to hI hK hN hZ hA⟩ rfl rfl hl.1 rfl (lv_room (Nat.le_of_ble_eq_true rfl)) dX12_stepRegisters_423 (by decide)) (fun H locs hI => ?_)
      refine lv_if_ne (tgt := 436) hx hb dX12_stepRegisters_426 (by decide) (fun c77 => ?_) (fun c77 => ?_)
      · have hm := (if_neg c77).symm.trans hm
        refine lv_aload_n hx hb dX12_stepRegisters_436 rfl (lv_at hl 6 rfl) ?_
        refine gf_59_38 hx hb ht hK hI mw_783 (fun _ h9 => h9) hown dX12_stepRegisters_437 ?_
        refine lv_bipush (v := 64) hx hb dX12_stepRegisters_440 (by decide) ?_
        refine lv_aload_n hx hb dX12_stepRegisters_442 rfl (lv_at hl 6 rfl) ?_
        refine gf_59_46 hx hb ht hK hI mw_791 (fun _ h9 => h9) hown dX12_stepRegisters_443 ?_
        refine lv_iload hx hb dX12_stepRegisters_446 (lv_at hl 0 rfl) ?_
        refine lv_iload_n hx hb dX12_stepRegisters_448 rfl (lv_at hl 3 rfl) ?_
        refine lv_iadd hx hb dX12_stepRegisters_449 ?_
        obtain ⟨g78, hm⟩ := gb_some hm
        refine ld_96 hx hb hK hI g78 (v := σ75 96 (ix ((24 * ((30 + (σ 93 (ix 1))) - 1)) + (σ 84 (ix ((5 * ((σ 85 (ix (σ 94 (ix ((30 + (σ 93 (ix 1))) - 1))))) + (σ 95 (ix ((30 + (σ 93 (ix 1))) - 1))))) + 1)))))) rfl dX12_stepRegisters_450 ?_
        refine lv_iadd hx hb dX12_stepRegisters_451 ?_
        refine lv_aload_n hx hb dX12_stepRegisters_452 rfl (lv_at hl 6 rfl) ?_
        refine gf_59_46 hx hb ht hK hI mw_791 (fun _ h9 => h9) hown dX12_stepRegisters_453 ?_
        refine lv_iload hx hb dX12_stepRegisters_456 (lv_at hl 0 rfl) ?_
        refine lv_iload hx hb dX12_stepRegisters_458 (lv_at hl 2 rfl) ?_
        refine lv_iadd hx hb dX12_stepRegisters_460 ?_
        obtain ⟨g79, hm⟩ := gb_some hm
        refine ld_96 hx hb hK hI g79 (v := σ75 96 (ix ((24 * ((30 + (σ 93 (ix 1))) - 1)) + (σ 84 (ix ((5 * ((σ 85 (ix (σ 94 (ix ((30 + (σ 93 (ix 1))) - 1))))) + (σ 95 (ix ((30 + (σ 93 (ix 1))) - 1))))) + 2)))))) rfl dX12_stepRegisters_461 ?_
        obtain ⟨g80, hm⟩ := gb_some hm
        refine sv_88 hx hb hK hI g80 dX12_stepRegisters_462 (fun H locs hI => ?_)
        exact hR _ _ _ _ _ hm hI dX12_stepRegisters_463
      · have hm := (if_pos c77).symm.trans hm
        refine lv_aload_n hx hb dX12_stepRegisters_429 rfl (lv_at hl 6 rfl) ?_
        refine lv_iconst (v := 1) hx hb dX12_stepRegisters_430 (by decide) ?_
        refine lv_iconst (v := 3) hx hb dX12_stepRegisters_431 (by decide) ?_
        obtain ⟨r81, σ82, h83, hm⟩ := bd_some hm
        refine k_v hI hA (va_runV (As := [.int 1, .int 3]) (rest := []) hX (c_X12_ends N n h83 _) (cwV 2 ht (in_V mw_1012 mw_1013 mw_1014 mw_861 mw_1009) rfl rfl rfl pd_X12_ends ⟨Nat.le_of_ble_eq_true rfl, Nat.le_of_ble_eq_true rfl⟩) ⟨q_blind, va_recv hK hI.1 (ci := 11) (q0 := 59) rfl rfl, q_to hI hK hN hZ hA⟩ rfl rfl hl.1 rfl (lv_room (Nat.le_of_ble_eq_true rfl)) dX12_stepRegisters_432 (by decide)) (fun H locs hI => ?_)
        exact hR _ _ _ _ _ hm hI dX12_stepRegisters_435
    have hm := (if_neg c72).symm.trans hm
    refine sw_d (tgt := 464) hx hb [0, 1, 2, 3, 4, 5, 6, 7, 8] dX12_stepRegisters_109 (by decide) (by decide) (ne_c (lv_neT c15 (by decide)) (ne_c (lv_neT c17 (by decide)) (ne_c (lv_neT c20 (by decide)) (ne_c (lv_neT c42 (by decide)) (ne_c (lv_neT c47 (by decide)) (ne_c (lv_neT c49 (by decide)) (ne_c (lv_neT c55 (by decide)) (ne_c (lv_neT c60 (by decide)) (ne_c (lv_neT c72 (by decide)) ne_n))))))))) (by decide) ?_
    refine lv_aload_n hx hb dX12_stepRegisters_464 rfl (lv_at hl 6 rfl) ?_
    refine lv_aload_n hx hb dX12_stepRegisters_465 rfl (lv_at hl 6 rfl) ?_
    refine gf_59_31 hx hb ht hK hI mw_779 (fun _ h9 => h9) hown dX12_stepRegisters_466 ?_
    refine lv_iload_n hx hb dX12_stepRegisters_469 rfl (lv_at hl 4 rfl) ?_
    obtain ⟨g84, hm⟩ := gb_some hm
    refine ld_84 hx hb hK hI g84 (v := σ 84 (ix (5 * ((σ 85 (ix (σ 94 (ix ((30 + (σ 93 (ix 1))) - 1))))) + (σ 95 (ix ((30 + (σ 93 (ix 1))) - 1))))))) rfl dX12_stepRegisters_470 ?_
    refine lv_iload_n hx hb dX12_stepRegisters_471 rfl (lv_at hl 3 rfl) ?_
    refine lv_iload hx hb dX12_stepRegisters_472 (lv_at hl 2 rfl) ?_
    refine lv_iload_n hx hb dX12_stepRegisters_474 rfl (lv_at hl 5 rfl) ?_
    obtain ⟨r85, σ86, h87, hm⟩ := bd_some hm
    refine k_v hI hA (va_runV (As := [.int (σ 84 (ix (5 * ((σ 85 (ix (σ 94 (ix ((30 + (σ 93 (ix 1))) - 1))))) + (σ 95 (ix ((30 + (σ 93 (ix 1))) - 1))))))), .int (σ 84 (ix ((5 * ((σ 85 (ix (σ 94 (ix ((30 + (σ 93 (ix 1))) - 1))))) + (σ 95 (ix ((30 + (σ 93 (ix 1))) - 1))))) + 1))), .int (σ 84 (ix ((5 * ((σ 85 (ix (σ 94 (ix ((30 + (σ 93 (ix 1))) - 1))))) + (σ 95 (ix ((30 + (σ 93 (ix 1))) - 1))))) + 2))), .int ((30 + (σ 93 (ix 1))) - 1)]) (rest := []) hX (c_X12_stepCall N n h87 _) (cwV 4 ht (in_V mw_1057 mw_1058 mw_1059 mw_861 mw_1056) rfl rfl rfl pd_X12_stepCall ⟨Nat.le_of_ble_eq_true rfl, Nat.le_of_ble_eq_true rfl⟩) ⟨q_blind, va_recv hK hI.1 (ci := 11) (q0 := 59) rfl rfl, q_to hI hK hN hZ hA⟩ rfl rfl hl.1 rfl (lv_room (Nat.le_of_ble_eq_true rfl)) dX12_stepRegisters_475 (by decide)) (fun H locs hI => ?_)
    exact hR _ _ _ _ _ hm hI dX12_stepRegisters_478
  · have hm := (if_pos c2).symm.trans hm
    refine lv_aload_n hx hb dX12_stepRegisters_9 rfl (lv_at hl 0 rfl) ?_
    refine lv_iconst (v := 1) hx hb dX12_stepRegisters_10 (by decide) ?_
    refine lv_iconst (v := 0) hx hb dX12_stepRegisters_11 (by decide) ?_
    obtain ⟨r88, σ89, h90, hm⟩ := bd_some hm
    refine k_v hI hA (va_runV (As := [.int 1, .int 0]) (rest := []) hX (c_X12_enters N n h90 _) (cwV 2 ht (in_V mw_1024 mw_1025 mw_1026 mw_861 mw_1008) rfl rfl rfl pd_X12_enters ⟨Nat.le_of_ble_eq_true rfl, Nat.le_of_ble_eq_true rfl⟩) ⟨q_blind, va_recv hK hI.1 (ci := 11) (q0 := 59) rfl rfl, q_to hI hK hN hZ hA⟩ rfl rfl hl.1 rfl (lv_room (Nat.le_of_ble_eq_true rfl)) dX12_stepRegisters_12 (by decide)) (fun H locs hI => ?_)
    refine lv_bipush (v := 30) hx hb dX12_stepRegisters_15 (by decide) ?_
    refine lv_aload_n hx hb dX12_stepRegisters_17 rfl (lv_at hl 0 rfl) ?_
    refine gf_59_43 hx hb ht hK hI mw_788 (fun _ h9 => h9) hown dX12_stepRegisters_18 ?_
    refine lv_iconst (v := 1) hx hb dX12_stepRegisters_21 (by decide) ?_
    obtain ⟨g91, hm⟩ := gb_some hm
    refine ld_93 hx hb hK hI g91 (v := σ89 93 (ix 1)) rfl dX12_stepRegisters_22 ?_
    refine lv_iadd hx hb dX12_stepRegisters_23 ?_
    refine lv_iconst (v := 1) hx hb dX12_stepRegisters_24 (by decide) ?_
    refine lv_isub hx hb dX12_stepRegisters_25 ?_
    refine lv_istore_n (lv' := [(1, .int ((30 + (σ89 93 (ix 1))) - 1)), (0, .ref (ga g 59))]) hx hb dX12_stepRegisters_26 rfl hl (by decide) rfl (fun ls hl => ?_)
    refine lv_iconst (v := 5) hx hb dX12_stepRegisters_27 (by decide) ?_
    refine lv_aload_n hx hb dX12_stepRegisters_28 rfl (lv_at hl 1 rfl) ?_
    refine gf_59_32 hx hb ht hK hI mw_780 (fun _ h9 => h9) hown dX12_stepRegisters_29 ?_
    refine lv_aload_n hx hb dX12_stepRegisters_32 rfl (lv_at hl 1 rfl) ?_
    refine gf_59_44 hx hb ht hK hI mw_789 (fun _ h9 => h9) hown dX12_stepRegisters_33 ?_
    refine lv_iload_n hx hb dX12_stepRegisters_36 rfl (lv_at hl 0 rfl) ?_
    obtain ⟨g92, hm⟩ := gb_some hm
    refine ld_94 hx hb hK hI g92 (v := σ89 94 (ix ((30 + (σ89 93 (ix 1))) - 1))) rfl dX12_stepRegisters_37 ?_
    obtain ⟨g93, hm⟩ := gb_some hm
    refine ld_85 hx hb hK hI g93 (v := σ89 85 (ix (σ89 94 (ix ((30 + (σ89 93 (ix 1))) - 1))))) rfl dX12_stepRegisters_38 ?_
    refine lv_aload_n hx hb dX12_stepRegisters_39 rfl (lv_at hl 1 rfl) ?_
    refine gf_59_45 hx hb ht hK hI mw_790 (fun _ h9 => h9) hown dX12_stepRegisters_40 ?_
    refine lv_iload_n hx hb dX12_stepRegisters_43 rfl (lv_at hl 0 rfl) ?_
    obtain ⟨g94, hm⟩ := gb_some hm
    refine ld_95 hx hb hK hI g94 (v := σ89 95 (ix ((30 + (σ89 93 (ix 1))) - 1))) rfl dX12_stepRegisters_44 ?_
    refine lv_iadd hx hb dX12_stepRegisters_45 ?_
    refine lv_imul hx hb dX12_stepRegisters_46 ?_
    refine lv_istore_n (lv' := [(2, .int (5 * ((σ89 85 (ix (σ89 94 (ix ((30 + (σ89 93 (ix 1))) - 1))))) + (σ89 95 (ix ((30 + (σ89 93 (ix 1))) - 1)))))), (1, .int ((30 + (σ89 93 (ix 1))) - 1)), (0, .ref (ga g 59))]) hx hb dX12_stepRegisters_47 rfl hl (by decide) rfl (fun ls hl => ?_)
    refine lv_aload_n hx hb dX12_stepRegisters_48 rfl (lv_at hl 2 rfl) ?_
    refine gf_59_31 hx hb ht hK hI mw_779 (fun _ h9 => h9) hown dX12_stepRegisters_49 ?_
    refine lv_iload_n hx hb dX12_stepRegisters_52 rfl (lv_at hl 0 rfl) ?_
    refine lv_iconst (v := 1) hx hb dX12_stepRegisters_53 (by decide) ?_
    refine lv_iadd hx hb dX12_stepRegisters_54 ?_
    obtain ⟨g95, hm⟩ := gb_some hm
    refine ld_84 hx hb hK hI g95 (v := σ89 84 (ix ((5 * ((σ89 85 (ix (σ89 94 (ix ((30 + (σ89 93 (ix 1))) - 1))))) + (σ89 95 (ix ((30 + (σ89 93 (ix 1))) - 1))))) + 1))) rfl dX12_stepRegisters_55 ?_
    refine lv_istore_n (lv' := [(3, .int (σ89 84 (ix ((5 * ((σ89 85 (ix (σ89 94 (ix ((30 + (σ89 93 (ix 1))) - 1))))) + (σ89 95 (ix ((30 + (σ89 93 (ix 1))) - 1))))) + 1)))), (2, .int (5 * ((σ89 85 (ix (σ89 94 (ix ((30 + (σ89 93 (ix 1))) - 1))))) + (σ89 95 (ix ((30 + (σ89 93 (ix 1))) - 1)))))), (1, .int ((30 + (σ89 93 (ix 1))) - 1)), (0, .ref (ga g 59))]) hx hb dX12_stepRegisters_56 rfl hl (by decide) rfl (fun ls hl => ?_)
    refine lv_aload_n hx hb dX12_stepRegisters_57 rfl (lv_at hl 3 rfl) ?_
    refine gf_59_31 hx hb ht hK hI mw_779 (fun _ h9 => h9) hown dX12_stepRegisters_58 ?_
    refine lv_iload_n hx hb dX12_stepRegisters_61 rfl (lv_at hl 1 rfl) ?_
    refine lv_iconst (v := 2) hx hb dX12_stepRegisters_62 (by decide) ?_
    refine lv_iadd hx hb dX12_stepRegisters_63 ?_
    obtain ⟨g96, hm⟩ := gb_some hm
    refine ld_84 hx hb hK hI g96 (v := σ89 84 (ix ((5 * ((σ89 85 (ix (σ89 94 (ix ((30 + (σ89 93 (ix 1))) - 1))))) + (σ89 95 (ix ((30 + (σ89 93 (ix 1))) - 1))))) + 2))) rfl dX12_stepRegisters_64 ?_
    refine lv_istore (lv' := [(4, .int (σ89 84 (ix ((5 * ((σ89 85 (ix (σ89 94 (ix ((30 + (σ89 93 (ix 1))) - 1))))) + (σ89 95 (ix ((30 + (σ89 93 (ix 1))) - 1))))) + 2)))), (3, .int (σ89 84 (ix ((5 * ((σ89 85 (ix (σ89 94 (ix ((30 + (σ89 93 (ix 1))) - 1))))) + (σ89 95 (ix ((30 + (σ89 93 (ix 1))) - 1))))) + 1)))), (2, .int (5 * ((σ89 85 (ix (σ89 94 (ix ((30 + (σ89 93 (ix 1))) - 1))))) + (σ89 95 (ix ((30 + (σ89 93 (ix 1))) - 1)))))), (1, .int ((30 + (σ89 93 (ix 1))) - 1)), (0, .ref (ga g 59))]) hx hb dX12_stepRegisters_65 hl (by decide) rfl (fun ls hl => ?_)
    refine lv_aload_n hx hb dX12_stepRegisters_67 rfl (lv_at hl 4 rfl) ?_
    refine gf_59_31 hx hb ht hK hI mw_779 (fun _ h9 => h9) hown dX12_stepRegisters_68 ?_
    refine lv_iload_n hx hb dX12_stepRegisters_71 rfl (lv_at hl 2 rfl) ?_
    refine lv_iconst (v := 3) hx hb dX12_stepRegisters_72 (by decide) ?_
    refine lv_iadd hx hb dX12_stepRegisters_73 ?_
    obtain ⟨g97, hm⟩ := gb_some hm
    refine ld_84 hx hb hK hI g97 (v := σ89 84 (ix ((5 * ((σ89 85 (ix (σ89 94 (ix ((30 + (σ89 93 (ix 1))) - 1))))) + (σ89 95 (ix ((30 + (σ89 93 (ix 1))) - 1))))) + 3))) rfl dX12_stepRegisters_74 ?_
    refine lv_istore (lv' := [(5, .int (σ89 84 (ix ((5 * ((σ89 85 (ix (σ89 94 (ix ((30 + (σ89 93 (ix 1))) - 1))))) + (σ89 95 (ix ((30 + (σ89 93 (ix 1))) - 1))))) + 3)))), (4, .int (σ89 84 (ix ((5 * ((σ89 85 (ix (σ89 94 (ix ((30 + (σ89 93 (ix 1))) - 1))))) + (σ89 95 (ix ((30 + (σ89 93 (ix 1))) - 1))))) + 2)))), (3, .int (σ89 84 (ix ((5 * ((σ89 85 (ix (σ89 94 (ix ((30 + (σ89 93 (ix 1))) - 1))))) + (σ89 95 (ix ((30 + (σ89 93 (ix 1))) - 1))))) + 1)))), (2, .int (5 * ((σ89 85 (ix (σ89 94 (ix ((30 + (σ89 93 (ix 1))) - 1))))) + (σ89 95 (ix ((30 + (σ89 93 (ix 1))) - 1)))))), (1, .int ((30 + (σ89 93 (ix 1))) - 1)), (0, .ref (ga g 59))]) hx hb dX12_stepRegisters_75 hl (by decide) rfl (fun ls hl => ?_)
    refine lv_bipush (v := 24) hx hb dX12_stepRegisters_77 (by decide) ?_
    refine lv_iload_n hx hb dX12_stepRegisters_79 rfl (lv_at hl 4 rfl) ?_
    refine lv_imul hx hb dX12_stepRegisters_80 ?_
    refine lv_istore (lv' := [(6, .int (24 * ((30 + (σ89 93 (ix 1))) - 1))), (5, .int (σ89 84 (ix ((5 * ((σ89 85 (ix (σ89 94 (ix ((30 + (σ89 93 (ix 1))) - 1))))) + (σ89 95 (ix ((30 + (σ89 93 (ix 1))) - 1))))) + 3)))), (4, .int (σ89 84 (ix ((5 * ((σ89 85 (ix (σ89 94 (ix ((30 + (σ89 93 (ix 1))) - 1))))) + (σ89 95 (ix ((30 + (σ89 93 (ix 1))) - 1))))) + 2)))), (3, .int (σ89 84 (ix ((5 * ((σ89 85 (ix (σ89 94 (ix ((30 + (σ89 93 (ix 1))) - 1))))) + (σ89 95 (ix ((30 + (σ89 93 (ix 1))) - 1))))) + 1)))), (2, .int (5 * ((σ89 85 (ix (σ89 94 (ix ((30 + (σ89 93 (ix 1))) - 1))))) + (σ89 95 (ix ((30 + (σ89 93 (ix 1))) - 1)))))), (1, .int ((30 + (σ89 93 (ix 1))) - 1)), (0, .ref (ga g 59))]) hx hb dX12_stepRegisters_81 hl (by decide) rfl (fun ls hl => ?_)
    refine lv_aload_n hx hb dX12_stepRegisters_83 rfl (lv_at hl 6 rfl) ?_
    refine gf_59_45 hx hb ht hK hI mw_790 (fun _ h9 => h9) hown dX12_stepRegisters_84 ?_
    refine lv_iload_n hx hb dX12_stepRegisters_87 rfl (lv_at hl 5 rfl) ?_
    refine lv_dup2_11 hx hb dX12_stepRegisters_88 rfl rfl ?_
    obtain ⟨g98, hm⟩ := gb_some hm
    refine ld_95 hx hb hK hI g98 (v := σ89 95 (ix ((30 + (σ89 93 (ix 1))) - 1))) rfl dX12_stepRegisters_89 ?_
    refine lv_iconst (v := 1) hx hb dX12_stepRegisters_90 (by decide) ?_
    refine lv_iadd hx hb dX12_stepRegisters_91 ?_
    obtain ⟨g99, hm⟩ := gb_some hm
    refine sv_95 hx hb hK hI g99 dX12_stepRegisters_92 (fun H locs hI => ?_)
    refine lv_aload_n hx hb dX12_stepRegisters_93 rfl (lv_at hl 6 rfl) ?_
    refine gf_59_41 hx hb ht hK hI mw_786 (fun _ h9 => h9) hown dX12_stepRegisters_94 ?_
    refine lv_iconst (v := 1) hx hb dX12_stepRegisters_97 (by decide) ?_
    refine lv_dup2_11 hx hb dX12_stepRegisters_98 rfl rfl ?_
    obtain ⟨g100, hm⟩ := gb_some hm
    refine ld_91 hx hb hK hI g100 (v := σ89 91 (ix 1)) rfl dX12_stepRegisters_99 ?_
    refine lv_iconst (v := 1) hx hb dX12_stepRegisters_100 (by decide) ?_
    refine lv_iadd hx hb dX12_stepRegisters_101 ?_
    obtain ⟨g101, hm⟩ := gb_some hm
    refine sv_91 hx hb hK hI g101 dX12_stepRegisters_102 (fun H locs hI => ?_)
    refine lv_aload_n hx hb dX12_stepRegisters_103 rfl (lv_at hl 6 rfl) ?_
    refine gf_59_31 hx hb ht hK hI mw_779 (fun _ h9 => h9) hown dX12_stepRegisters_104 ?_
    refine lv_iload_n hx hb dX12_stepRegisters_107 rfl (lv_at hl 4 rfl) ?_
    obtain ⟨g102, hm⟩ := gb_some hm
    refine ld_84 hx hb hK hI g102 (v := σ89 84 (ix (5 * ((σ89 85 (ix (σ89 94 (ix ((30 + (σ89 93 (ix 1))) - 1))))) + (σ89 95 (ix ((30 + (σ89 93 (ix 1))) - 1))))))) rfl dX12_stepRegisters_108 ?_
    by_cases c103 : (σ89 84 (ix (5 * ((σ89 85 (ix (σ89 94 (ix ((30 + (σ89 93 (ix 1))) - 1))))) + (σ89 95 (ix ((30 + (σ89 93 (ix 1))) - 1))))))) = 0
    · have hm := (if_pos c103).symm.trans hm
      refine lv_tableIn (off := 51) (tgt := 160) hx hb dX12_stepRegisters_109 (by (rw [c103]; decide)) (by (rw [c103]; decide)) (by (rw [c103]; rfl)) (by decide) ?_
      refine lv_aload_n hx hb dX12_stepRegisters_160 rfl (lv_at hl 6 rfl) ?_
      refine gf_59_46 hx hb ht hK hI mw_791 (fun _ h9 => h9) hown dX12_stepRegisters_161 ?_
      refine lv_iload hx hb dX12_stepRegisters_164 (lv_at hl 0 rfl) ?_
      refine lv_iload_n hx hb dX12_stepRegisters_166 rfl (lv_at hl 3 rfl) ?_
      refine lv_iadd hx hb dX12_stepRegisters_167 ?_
      refine lv_iload hx hb dX12_stepRegisters_168 (lv_at hl 2 rfl) ?_
      obtain ⟨g104, hm⟩ := gb_some hm
      refine sv_96 hx hb hK hI g104 dX12_stepRegisters_170 (fun H locs hI => ?_)
      exact hR _ _ _ _ _ hm hI dX12_stepRegisters_171
    have hm := (if_neg c103).symm.trans hm
    by_cases c105 : (σ89 84 (ix (5 * ((σ89 85 (ix (σ89 94 (ix ((30 + (σ89 93 (ix 1))) - 1))))) + (σ89 95 (ix ((30 + (σ89 93 (ix 1))) - 1))))))) = 1
    · have hm := (if_pos c105).symm.trans hm
      refine lv_tableIn (off := 63) (tgt := 172) hx hb dX12_stepRegisters_109 (by (rw [c105]; decide)) (by (rw [c105]; decide)) (by (rw [c105]; rfl)) (by decide) ?_
      refine lv_aload_n hx hb dX12_stepRegisters_172 rfl (lv_at hl 6 rfl) ?_
      refine gf_59_46 hx hb ht hK hI mw_791 (fun _ h9 => h9) hown dX12_stepRegisters_173 ?_
      refine lv_iload hx hb dX12_stepRegisters_176 (lv_at hl 0 rfl) ?_
      refine lv_iload_n hx hb dX12_stepRegisters_178 rfl (lv_at hl 3 rfl) ?_
      refine lv_iadd hx hb dX12_stepRegisters_179 ?_
      refine lv_aload_n hx hb dX12_stepRegisters_180 rfl (lv_at hl 6 rfl) ?_
      refine gf_59_46 hx hb ht hK hI mw_791 (fun _ h9 => h9) hown dX12_stepRegisters_181 ?_
      refine lv_iload hx hb dX12_stepRegisters_184 (lv_at hl 0 rfl) ?_
      refine lv_iload hx hb dX12_stepRegisters_186 (lv_at hl 2 rfl) ?_
      refine lv_iadd hx hb dX12_stepRegisters_188 ?_
      obtain ⟨g106, hm⟩ := gb_some hm
      refine ld_96 hx hb hK hI g106 (v := σ89 96 (ix ((24 * ((30 + (σ89 93 (ix 1))) - 1)) + (σ89 84 (ix ((5 * ((σ89 85 (ix (σ89 94 (ix ((30 + (σ89 93 (ix 1))) - 1))))) + (σ89 95 (ix ((30 + (σ89 93 (ix 1))) - 1))))) + 2)))))) rfl dX12_stepRegisters_189 ?_
      obtain ⟨g107, hm⟩ := gb_some hm
      refine sv_96 hx hb hK hI g107 dX12_stepRegisters_190 (fun H locs hI => ?_)
      exact hR _ _ _ _ _ hm hI dX12_stepRegisters_191
    have hm := (if_neg c105).symm.trans hm
    by_cases c108 : (σ89 84 (ix (5 * ((σ89 85 (ix (σ89 94 (ix ((30 + (σ89 93 (ix 1))) - 1))))) + (σ89 95 (ix ((30 + (σ89 93 (ix 1))) - 1))))))) = 2
    · have hm := (if_pos c108).symm.trans hm
      refine lv_tableIn (off := 83) (tgt := 192) hx hb dX12_stepRegisters_109 (by (rw [c108]; decide)) (by (rw [c108]; decide)) (by (rw [c108]; rfl)) (by decide) ?_
      refine lv_aload_n hx hb dX12_stepRegisters_192 rfl (lv_at hl 6 rfl) ?_
      refine gf_59_31 hx hb ht hK hI mw_779 (fun _ h9 => h9) hown dX12_stepRegisters_193 ?_
      refine lv_iload_n hx hb dX12_stepRegisters_196 rfl (lv_at hl 4 rfl) ?_
      refine lv_iconst (v := 4) hx hb dX12_stepRegisters_197 (by decide) ?_
      refine lv_iadd hx hb dX12_stepRegisters_198 ?_
      obtain ⟨g109, hm⟩ := gb_some hm
      refine ld_84 hx hb hK hI g109 (v := σ89 84 (ix ((5 * ((σ89 85 (ix (σ89 94 (ix ((30 + (σ89 93 (ix 1))) - 1))))) + (σ89 95 (ix ((30 + (σ89 93 (ix 1))) - 1))))) + 4))) rfl dX12_stepRegisters_199 ?_
      refine lv_bipush (v := 6) hx hb dX12_stepRegisters_200 (by decide) ?_
      refine lv_icmp_ne (tgt := 225) hx hb dX12_stepRegisters_202 (by decide) (fun c110 => ?_) (fun c110 => ?_)
      · have hm := (if_neg c110).symm.trans hm
        refine lv_aload_n hx hb dX12_stepRegisters_225 rfl (lv_at hl 6 rfl) ?_
        refine gf_59_46 hx hb ht hK hI mw_791 (fun _ h9 => h9) hown dX12_stepRegisters_226 ?_
        refine lv_iload hx hb dX12_stepRegisters_229 (lv_at hl 0 rfl) ?_
        refine lv_iload_n hx hb dX12_stepRegisters_231 rfl (lv_at hl 3 rfl) ?_
        refine lv_iadd hx hb dX12_stepRegisters_232 ?_
        refine lv_aload_n hx hb dX12_stepRegisters_233 rfl (lv_at hl 6 rfl) ?_
        refine lv_aload_n hx hb dX12_stepRegisters_234 rfl (lv_at hl 6 rfl) ?_
        refine gf_59_31 hx hb ht hK hI mw_779 (fun _ h9 => h9) hown dX12_stepRegisters_235 ?_
        refine lv_iload_n hx hb dX12_stepRegisters_238 rfl (lv_at hl 4 rfl) ?_
        refine lv_iconst (v := 4) hx hb dX12_stepRegisters_239 (by decide) ?_
        refine lv_iadd hx hb dX12_stepRegisters_240 ?_
        obtain ⟨g111, hm⟩ := gb_some hm
        refine ld_84 hx hb hK hI g111 (v := σ89 84 (ix ((5 * ((σ89 85 (ix (σ89 94 (ix ((30 + (σ89 93 (ix 1))) - 1))))) + (σ89 95 (ix ((30 + (σ89 93 (ix 1))) - 1))))) + 4))) rfl dX12_stepRegisters_241 ?_
        refine lv_aload_n hx hb dX12_stepRegisters_242 rfl (lv_at hl 6 rfl) ?_
        refine gf_59_46 hx hb ht hK hI mw_791 (fun _ h9 => h9) hown dX12_stepRegisters_243 ?_
        refine lv_iload hx hb dX12_stepRegisters_246 (lv_at hl 0 rfl) ?_
        refine lv_iload hx hb dX12_stepRegisters_248 (lv_at hl 2 rfl) ?_
        refine lv_iadd hx hb dX12_stepRegisters_250 ?_
        obtain ⟨g112, hm⟩ := gb_some hm
        refine ld_96 hx hb hK hI g112 (v := σ89 96 (ix ((24 * ((30 + (σ89 93 (ix 1))) - 1)) + (σ89 84 (ix ((5 * ((σ89 85 (ix (σ89 94 (ix ((30 + (σ89 93 (ix 1))) - 1))))) + (σ89 95 (ix ((30 + (σ89 93 (ix 1))) - 1))))) + 2)))))) rfl dX12_stepRegisters_251 ?_
        refine lv_aload_n hx hb dX12_stepRegisters_252 rfl (lv_at hl 6 rfl) ?_
        refine gf_59_46 hx hb ht hK hI mw_791 (fun _ h9 => h9) hown dX12_stepRegisters_253 ?_
        refine lv_iload hx hb dX12_stepRegisters_256 (lv_at hl 0 rfl) ?_
        refine lv_iload hx hb dX12_stepRegisters_258 (lv_at hl 1 rfl) ?_
        refine lv_iadd hx hb dX12_stepRegisters_260 ?_
        obtain ⟨g113, hm⟩ := gb_some hm
        refine ld_96 hx hb hK hI g113 (v := σ89 96 (ix ((24 * ((30 + (σ89 93 (ix 1))) - 1)) + (σ89 84 (ix ((5 * ((σ89 85 (ix (σ89 94 (ix ((30 + (σ89 93 (ix 1))) - 1))))) + (σ89 95 (ix ((30 + (σ89 93 (ix 1))) - 1))))) + 3)))))) rfl dX12_stepRegisters_261 ?_
        obtain ⟨r114, σ115, h116, hm⟩ := bd_some hm
        refine k_i hI hA (va_runV (As := [.int (σ89 84 (ix ((5 * ((σ89 85 (ix (σ89 94 (ix ((30 + (σ89 93 (ix 1))) - 1))))) + (σ89 95 (ix ((30 + (σ89 93 (ix 1))) - 1))))) + 4))), .int (σ89 96 (ix ((24 * ((30 + (σ89 93 (ix 1))) - 1)) + (σ89 84 (ix ((5 * ((σ89 85 (ix (σ89 94 (ix ((30 + (σ89 93 (ix 1))) - 1))))) + (σ89 95 (ix ((30 + (σ89 93 (ix 1))) - 1))))) + 2)))))), .int (σ89 96 (ix ((24 * ((30 + (σ89 93 (ix 1))) - 1)) + (σ89 84 (ix ((5 * ((σ89 85 (ix (σ89 94 (ix ((30 + (σ89 93 (ix 1))) - 1))))) + (σ89 95 (ix ((30 + (σ89 93 (ix 1))) - 1))))) + 3))))))]) (rest := [.int ((24 * ((30 + (σ89 93 (ix 1))) - 1)) + (σ89 84 (ix ((5 * ((σ89 85 (ix (σ89 94 (ix ((30 + (σ89 93 (ix 1))) - 1))))) + (σ89 95 (ix ((30 + (σ89 93 (ix 1))) - 1))))) + 1)))), .ref (ga g 96)]) hX (c_X12_works N n h116 _) (cwV 3 ht (in_V mw_1034 mw_1035 mw_1036 mw_861 mw_1019) rfl rfl rfl pd_X12_works ⟨Nat.le_of_ble_eq_true rfl, Nat.le_of_ble_eq_true rfl⟩) ⟨q_blind, va_recv hK hI.1 (ci := 11) (q0 := 59) rfl rfl, q_to hI hK hN hZ hA⟩ rfl rfl hl.1 rfl (lv_room (Nat.le_of_ble_eq_true rfl)) dX12_stepRegisters_262 (by decide)) (fun H locs hI => ?_)
        obtain ⟨g117, hm⟩ := gb_some hm
        refine sv_96 hx hb hK hI g117 dX12_stepRegisters_265 (fun H locs hI => ?_)
        exact hR _ _ _ _ _ hm hI dX12_stepRegisters_266
      · have hm := (if_pos c110).symm.trans hm
        refine lv_aload_n hx hb dX12_stepRegisters_205 rfl (lv_at hl 6 rfl) ?_
        refine gf_59_46 hx hb ht hK hI mw_791 (fun _ h9 => h9) hown dX12_stepRegisters_206 ?_
        refine lv_iload hx hb dX12_stepRegisters_209 (lv_at hl 0 rfl) ?_
        refine lv_iload hx hb dX12_stepRegisters_211 (lv_at hl 1 rfl) ?_
        refine lv_iadd hx hb dX12_stepRegisters_213 ?_
        obtain ⟨g118, hm⟩ := gb_some hm
        refine ld_96 hx hb hK hI g118 (v := σ89 96 (ix ((24 * ((30 + (σ89 93 (ix 1))) - 1)) + (σ89 84 (ix ((5 * ((σ89 85 (ix (σ89 94 (ix ((30 + (σ89 93 (ix 1))) - 1))))) + (σ89 95 (ix ((30 + (σ89 93 (ix 1))) - 1))))) + 3)))))) rfl dX12_stepRegisters_214 ?_
        refine lv_if_ne (tgt := 225) hx hb dX12_stepRegisters_215 (by decide) (fun c119 => ?_) (fun c119 => ?_)
        · have hm := (if_neg c119).symm.trans hm
          refine lv_aload_n hx hb dX12_stepRegisters_225 rfl (lv_at hl 6 rfl) ?_
          refine gf_59_46 hx hb ht hK hI mw_791 (fun _ h9 => h9) hown dX12_stepRegisters_226 ?_
          refine lv_iload hx hb dX12_stepRegisters_229 (lv_at hl 0 rfl) ?_
          refine lv_iload_n hx hb dX12_stepRegisters_231 rfl (lv_at hl 3 rfl) ?_
          refine lv_iadd hx hb dX12_stepRegisters_232 ?_
          refine lv_aload_n hx hb dX12_stepRegisters_233 rfl (lv_at hl 6 rfl) ?_
          refine lv_aload_n hx hb dX12_stepRegisters_234 rfl (lv_at hl 6 rfl) ?_
          refine gf_59_31 hx hb ht hK hI mw_779 (fun _ h9 => h9) hown dX12_stepRegisters_235 ?_
          refine lv_iload_n hx hb dX12_stepRegisters_238 rfl (lv_at hl 4 rfl) ?_
          refine lv_iconst (v := 4) hx hb dX12_stepRegisters_239 (by decide) ?_
          refine lv_iadd hx hb dX12_stepRegisters_240 ?_
          obtain ⟨g120, hm⟩ := gb_some hm
          refine ld_84 hx hb hK hI g120 (v := σ89 84 (ix ((5 * ((σ89 85 (ix (σ89 94 (ix ((30 + (σ89 93 (ix 1))) - 1))))) + (σ89 95 (ix ((30 + (σ89 93 (ix 1))) - 1))))) + 4))) rfl dX12_stepRegisters_241 ?_
          refine lv_aload_n hx hb dX12_stepRegisters_242 rfl (lv_at hl 6 rfl) ?_
          refine gf_59_46 hx hb ht hK hI mw_791 (fun _ h9 => h9) hown dX12_stepRegisters_243 ?_
          refine lv_iload hx hb dX12_stepRegisters_246 (lv_at hl 0 rfl) ?_
          refine lv_iload hx hb dX12_stepRegisters_248 (lv_at hl 2 rfl) ?_
          refine lv_iadd hx hb dX12_stepRegisters_250 ?_
          obtain ⟨g121, hm⟩ := gb_some hm
          refine ld_96 hx hb hK hI g121 (v := σ89 96 (ix ((24 * ((30 + (σ89 93 (ix 1))) - 1)) + (σ89 84 (ix ((5 * ((σ89 85 (ix (σ89 94 (ix ((30 + (σ89 93 (ix 1))) - 1))))) + (σ89 95 (ix ((30 + (σ89 93 (ix 1))) - 1))))) + 2)))))) rfl dX12_stepRegisters_251 ?_
          refine lv_aload_n hx hb dX12_stepRegisters_252 rfl (lv_at hl 6 rfl) ?_
          refine gf_59_46 hx hb ht hK hI mw_791 (fun _ h9 => h9) hown dX12_stepRegisters_253 ?_
          refine lv_iload hx hb dX12_stepRegisters_256 (lv_at hl 0 rfl) ?_
          refine lv_iload hx hb dX12_stepRegisters_258 (lv_at hl 1 rfl) ?_
          refine lv_iadd hx hb dX12_stepRegisters_260 ?_
          obtain ⟨g122, hm⟩ := gb_some hm
          refine ld_96 hx hb hK hI g122 (v := σ89 96 (ix ((24 * ((30 + (σ89 93 (ix 1))) - 1)) + (σ89 84 (ix ((5 * ((σ89 85 (ix (σ89 94 (ix ((30 + (σ89 93 (ix 1))) - 1))))) + (σ89 95 (ix ((30 + (σ89 93 (ix 1))) - 1))))) + 3)))))) rfl dX12_stepRegisters_261 ?_
          obtain ⟨r123, σ124, h125, hm⟩ := bd_some hm
          refine k_i hI hA (va_runV (As := [.int (σ89 84 (ix ((5 * ((σ89 85 (ix (σ89 94 (ix ((30 + (σ89 93 (ix 1))) - 1))))) + (σ89 95 (ix ((30 + (σ89 93 (ix 1))) - 1))))) + 4))), .int (σ89 96 (ix ((24 * ((30 + (σ89 93 (ix 1))) - 1)) + (σ89 84 (ix ((5 * ((σ89 85 (ix (σ89 94 (ix ((30 + (σ89 93 (ix 1))) - 1))))) + (σ89 95 (ix ((30 + (σ89 93 (ix 1))) - 1))))) + 2)))))), .int (σ89 96 (ix ((24 * ((30 + (σ89 93 (ix 1))) - 1)) + (σ89 84 (ix ((5 * ((σ89 85 (ix (σ89 94 (ix ((30 + (σ89 93 (ix 1))) - 1))))) + (σ89 95 (ix ((30 + (σ89 93 (ix 1))) - 1))))) + 3))))))]) (rest := [.int ((24 * ((30 + (σ89 93 (ix 1))) - 1)) + (σ89 84 (ix ((5 * ((σ89 85 (ix (σ89 94 (ix ((30 + (σ89 93 (ix 1))) - 1))))) + (σ89 95 (ix ((30 + (σ89 93 (ix 1))) - 1))))) + 1)))), .ref (ga g 96)]) hX (c_X12_works N n h125 _) (cwV 3 ht (in_V mw_1034 mw_1035 mw_1036 mw_861 mw_1019) rfl rfl rfl pd_X12_works ⟨Nat.le_of_ble_eq_true rfl, Nat.le_of_ble_eq_true rfl⟩) ⟨q_blind, va_recv hK hI.1 (ci := 11) (q0 := 59) rfl rfl, q_to hI hK hN hZ hA⟩ rfl rfl hl.1 rfl (lv_room (Nat.le_of_ble_eq_true rfl)) dX12_stepRegisters_262 (by decide)) (fun H locs hI => ?_)
          obtain ⟨g126, hm⟩ := gb_some hm
          refine sv_96 hx hb hK hI g126 dX12_stepRegisters_265 (fun H locs hI => ?_)
          exact hR _ _ _ _ _ hm hI dX12_stepRegisters_266
        · have hm := (if_pos c119).symm.trans hm
          refine lv_aload_n hx hb dX12_stepRegisters_218 rfl (lv_at hl 6 rfl) ?_
          refine lv_iconst (v := 1) hx hb dX12_stepRegisters_219 (by decide) ?_
          refine lv_iconst (v := 2) hx hb dX12_stepRegisters_220 (by decide) ?_
          obtain ⟨r127, σ128, h129, hm⟩ := bd_some hm
          refine k_v hI hA (va_runV (As := [.int 1, .int 2]) (rest := []) hX (c_X12_ends N n h129 _) (cwV 2 ht (in_V mw_1012 mw_1013 mw_1014 mw_861 mw_1009) rfl rfl rfl pd_X12_ends ⟨Nat.le_of_ble_eq_true rfl, Nat.le_of_ble_eq_true rfl⟩) ⟨q_blind, va_recv hK hI.1 (ci := 11) (q0 := 59) rfl rfl, q_to hI hK hN hZ hA⟩ rfl rfl hl.1 rfl (lv_room (Nat.le_of_ble_eq_true rfl)) dX12_stepRegisters_221 (by decide)) (fun H locs hI => ?_)
          exact hR _ _ _ _ _ hm hI dX12_stepRegisters_224
    have hm := (if_neg c108).symm.trans hm
    by_cases c130 : (σ89 84 (ix (5 * ((σ89 85 (ix (σ89 94 (ix ((30 + (σ89 93 (ix 1))) - 1))))) + (σ89 95 (ix ((30 + (σ89 93 (ix 1))) - 1))))))) = 3
    · have hm := (if_pos c130).symm.trans hm
      refine lv_tableIn (off := 158) (tgt := 267) hx hb dX12_stepRegisters_109 (by (rw [c130]; decide)) (by (rw [c130]; decide)) (by (rw [c130]; rfl)) (by decide) ?_
      refine lv_aload_n hx hb dX12_stepRegisters_267 rfl (lv_at hl 6 rfl) ?_
      refine gf_59_46 hx hb ht hK hI mw_791 (fun _ h9 => h9) hown dX12_stepRegisters_268 ?_
      refine lv_iload hx hb dX12_stepRegisters_271 (lv_at hl 0 rfl) ?_
      refine lv_iload_n hx hb dX12_stepRegisters_273 rfl (lv_at hl 3 rfl) ?_
      refine lv_iadd hx hb dX12_stepRegisters_274 ?_
      obtain ⟨g131, hm⟩ := gb_some hm
      refine ld_96 hx hb hK hI g131 (v := σ89 96 (ix ((24 * ((30 + (σ89 93 (ix 1))) - 1)) + (σ89 84 (ix ((5 * ((σ89 85 (ix (σ89 94 (ix ((30 + (σ89 93 (ix 1))) - 1))))) + (σ89 95 (ix ((30 + (σ89 93 (ix 1))) - 1))))) + 1)))))) rfl dX12_stepRegisters_275 ?_
      refine lv_istore (lv' := [(7, .int (σ89 96 (ix ((24 * ((30 + (σ89 93 (ix 1))) - 1)) + (σ89 84 (ix ((5 * ((σ89 85 (ix (σ89 94 (ix ((30 + (σ89 93 (ix 1))) - 1))))) + (σ89 95 (ix ((30 + (σ89 93 (ix 1))) - 1))))) + 1))))))), (6, .int (24 * ((30 + (σ89 93 (ix 1))) - 1))), (5, .int (σ89 84 (ix ((5 * ((σ89 85 (ix (σ89 94 (ix ((30 + (σ89 93 (ix 1))) - 1))))) + (σ89 95 (ix ((30 + (σ89 93 (ix 1))) - 1))))) + 3)))), (4, .int (σ89 84 (ix ((5 * ((σ89 85 (ix (σ89 94 (ix ((30 + (σ89 93 (ix 1))) - 1))))) + (σ89 95 (ix ((30 + (σ89 93 (ix 1))) - 1))))) + 2)))), (3, .int (σ89 84 (ix ((5 * ((σ89 85 (ix (σ89 94 (ix ((30 + (σ89 93 (ix 1))) - 1))))) + (σ89 95 (ix ((30 + (σ89 93 (ix 1))) - 1))))) + 1)))), (2, .int (5 * ((σ89 85 (ix (σ89 94 (ix ((30 + (σ89 93 (ix 1))) - 1))))) + (σ89 95 (ix ((30 + (σ89 93 (ix 1))) - 1)))))), (1, .int ((30 + (σ89 93 (ix 1))) - 1)), (0, .ref (ga g 59))]) hx hb dX12_stepRegisters_276 hl (by decide) rfl (fun ls hl => ?_)
      refine lv_aload_n hx hb dX12_stepRegisters_278 rfl (lv_at hl 7 rfl) ?_
      refine gf_59_46 hx hb ht hK hI mw_791 (fun _ h9 => h9) hown dX12_stepRegisters_279 ?_
      refine lv_iload hx hb dX12_stepRegisters_282 (lv_at hl 1 rfl) ?_
      refine lv_iload_n hx hb dX12_stepRegisters_284 rfl (lv_at hl 4 rfl) ?_
      refine lv_iadd hx hb dX12_stepRegisters_285 ?_
      refine lv_aload_n hx hb dX12_stepRegisters_286 rfl (lv_at hl 7 rfl) ?_
      refine gf_59_46 hx hb ht hK hI mw_791 (fun _ h9 => h9) hown dX12_stepRegisters_287 ?_
      refine lv_iload hx hb dX12_stepRegisters_290 (lv_at hl 1 rfl) ?_
      refine lv_iload hx hb dX12_stepRegisters_292 (lv_at hl 3 rfl) ?_
      refine lv_iadd hx hb dX12_stepRegisters_294 ?_
      obtain ⟨g132, hm⟩ := gb_some hm
      refine ld_96 hx hb hK hI g132 (v := σ89 96 (ix ((24 * ((30 + (σ89 93 (ix 1))) - 1)) + (σ89 84 (ix ((5 * ((σ89 85 (ix (σ89 94 (ix ((30 + (σ89 93 (ix 1))) - 1))))) + (σ89 95 (ix ((30 + (σ89 93 (ix 1))) - 1))))) + 2)))))) rfl dX12_stepRegisters_295 ?_
      obtain ⟨g133, hm⟩ := gb_some hm
      refine sv_96 hx hb hK hI g133 dX12_stepRegisters_296 (fun H locs hI => ?_)
      refine lv_aload_n hx hb dX12_stepRegisters_297 rfl (lv_at hl 7 rfl) ?_
      refine gf_59_46 hx hb ht hK hI mw_791 (fun _ h9 => h9) hown dX12_stepRegisters_298 ?_
      refine lv_iload hx hb dX12_stepRegisters_301 (lv_at hl 1 rfl) ?_
      refine lv_iload hx hb dX12_stepRegisters_303 (lv_at hl 3 rfl) ?_
      refine lv_iadd hx hb dX12_stepRegisters_305 ?_
      refine lv_iload hx hb dX12_stepRegisters_306 (lv_at hl 0 rfl) ?_
      obtain ⟨g134, hm⟩ := gb_some hm
      refine sv_96 hx hb hK hI g134 dX12_stepRegisters_308 (fun H locs hI => ?_)
      exact hR _ _ _ _ _ hm hI dX12_stepRegisters_309
    have hm := (if_neg c130).symm.trans hm
    by_cases c135 : (σ89 84 (ix (5 * ((σ89 85 (ix (σ89 94 (ix ((30 + (σ89 93 (ix 1))) - 1))))) + (σ89 95 (ix ((30 + (σ89 93 (ix 1))) - 1))))))) = 4
    · have hm := (if_pos c135).symm.trans hm
      refine lv_tableIn (off := 201) (tgt := 310) hx hb dX12_stepRegisters_109 (by (rw [c135]; decide)) (by (rw [c135]; decide)) (by (rw [c135]; rfl)) (by decide) ?_
      refine lv_aload_n hx hb dX12_stepRegisters_310 rfl (lv_at hl 6 rfl) ?_
      refine gf_59_45 hx hb ht hK hI mw_790 (fun _ h9 => h9) hown dX12_stepRegisters_311 ?_
      refine lv_iload_n hx hb dX12_stepRegisters_314 rfl (lv_at hl 5 rfl) ?_
      refine lv_iload_n hx hb dX12_stepRegisters_315 rfl (lv_at hl 3 rfl) ?_
      obtain ⟨g136, hm⟩ := gb_some hm
      refine sv_95 hx hb hK hI g136 dX12_stepRegisters_316 (fun H locs hI => ?_)
      exact hR _ _ _ _ _ hm hI dX12_stepRegisters_317
    have hm := (if_neg c135).symm.trans hm
    by_cases c137 : (σ89 84 (ix (5 * ((σ89 85 (ix (σ89 94 (ix ((30 + (σ89 93 (ix 1))) - 1))))) + (σ89 95 (ix ((30 + (σ89 93 (ix 1))) - 1))))))) = 5
    · have hm := (if_pos c137).symm.trans hm
      refine lv_tableIn (off := 209) (tgt := 318) hx hb dX12_stepRegisters_109 (by (rw [c137]; decide)) (by (rw [c137]; decide)) (by (rw [c137]; rfl)) (by decide) ?_
      refine lv_aload_n hx hb dX12_stepRegisters_318 rfl (lv_at hl 6 rfl) ?_
      refine gf_59_45 hx hb ht hK hI mw_790 (fun _ h9 => h9) hown dX12_stepRegisters_319 ?_
      refine lv_iload_n hx hb dX12_stepRegisters_322 rfl (lv_at hl 5 rfl) ?_
      refine lv_aload_n hx hb dX12_stepRegisters_323 rfl (lv_at hl 6 rfl) ?_
      refine gf_59_46 hx hb ht hK hI mw_791 (fun _ h9 => h9) hown dX12_stepRegisters_324 ?_
      refine lv_iload hx hb dX12_stepRegisters_327 (lv_at hl 0 rfl) ?_
      refine lv_iload_n hx hb dX12_stepRegisters_329 rfl (lv_at hl 3 rfl) ?_
      refine lv_iadd hx hb dX12_stepRegisters_330 ?_
      obtain ⟨g138, hm⟩ := gb_some hm
      refine ld_96 hx hb hK hI g138 (v := σ89 96 (ix ((24 * ((30 + (σ89 93 (ix 1))) - 1)) + (σ89 84 (ix ((5 * ((σ89 85 (ix (σ89 94 (ix ((30 + (σ89 93 (ix 1))) - 1))))) + (σ89 95 (ix ((30 + (σ89 93 (ix 1))) - 1))))) + 1)))))) rfl dX12_stepRegisters_331 ?_
      refine lv_if_ne (tgt := 340) hx hb dX12_stepRegisters_332 (by decide) (fun c139 => ?_) (fun c139 => ?_)
      · have hm := (if_neg c139).symm.trans hm
        refine lv_aload_n hx hb dX12_stepRegisters_340 rfl (lv_at hl 6 rfl) ?_
        refine gf_59_45 hx hb ht hK hI mw_790 (fun _ h9 => h9) hown dX12_stepRegisters_341 ?_
        refine lv_iload_n hx hb dX12_stepRegisters_344 rfl (lv_at hl 5 rfl) ?_
        obtain ⟨g140, hm⟩ := gb_some hm
        refine ld_95 hx hb hK hI g140 (v := (σ89 95 (ix ((30 + (σ89 93 (ix 1))) - 1))) + 1) (show upd (σ89 95) (ix ((30 + (σ89 93 (ix 1))) - 1)) ((σ89 95 (ix ((30 + (σ89 93 (ix 1))) - 1))) + 1) (ix ((30 + (σ89 93 (ix 1))) - 1)) = (σ89 95 (ix ((30 + (σ89 93 (ix 1))) - 1))) + 1 from up_same _ _ _) dX12_stepRegisters_345 ?_
        obtain ⟨g141, hm⟩ := gb_some hm
        refine sv_95 hx hb hK hI g141 dX12_stepRegisters_346 (fun H locs hI => ?_)
        exact hR _ _ _ _ _ hm hI dX12_stepRegisters_347
      · have hm := (if_pos c139).symm.trans hm
        refine lv_iload hx hb dX12_stepRegisters_335 (lv_at hl 2 rfl) ?_
        refine lv_goto (tgt := 346) hx hb dX12_stepRegisters_337 (by decide) ?_
        obtain ⟨g142, hm⟩ := gb_some hm
        refine sv_95 hx hb hK hI g142 dX12_stepRegisters_346 (fun H locs hI => ?_)
        exact hR _ _ _ _ _ hm hI dX12_stepRegisters_347
    have hm := (if_neg c137).symm.trans hm
    by_cases c143 : (σ89 84 (ix (5 * ((σ89 85 (ix (σ89 94 (ix ((30 + (σ89 93 (ix 1))) - 1))))) + (σ89 95 (ix ((30 + (σ89 93 (ix 1))) - 1))))))) = 6
    · have hm := (if_pos c143).symm.trans hm
      refine lv_tableIn (off := 239) (tgt := 348) hx hb dX12_stepRegisters_109 (by (rw [c143]; decide)) (by (rw [c143]; decide)) (by (rw [c143]; rfl)) (by decide) ?_
      refine lv_aload_n hx hb dX12_stepRegisters_348 rfl (lv_at hl 6 rfl) ?_
      refine lv_iconst (v := 1) hx hb dX12_stepRegisters_349 (by decide) ?_
      refine lv_aload_n hx hb dX12_stepRegisters_350 rfl (lv_at hl 6 rfl) ?_
      refine gf_59_46 hx hb ht hK hI mw_791 (fun _ h9 => h9) hown dX12_stepRegisters_351 ?_
      refine lv_iload hx hb dX12_stepRegisters_354 (lv_at hl 0 rfl) ?_
      refine lv_iload_n hx hb dX12_stepRegisters_356 rfl (lv_at hl 3 rfl) ?_
      refine lv_iadd hx hb dX12_stepRegisters_357 ?_
      obtain ⟨g144, hm⟩ := gb_some hm
      refine ld_96 hx hb hK hI g144 (v := σ89 96 (ix ((24 * ((30 + (σ89 93 (ix 1))) - 1)) + (σ89 84 (ix ((5 * ((σ89 85 (ix (σ89 94 (ix ((30 + (σ89 93 (ix 1))) - 1))))) + (σ89 95 (ix ((30 + (σ89 93 (ix 1))) - 1))))) + 1)))))) rfl dX12_stepRegisters_358 ?_
      obtain ⟨r145, σ146, h147, hm⟩ := bd_some hm
      refine k_v hI hA (va_runV (As := [.int 1, .int (σ89 96 (ix ((24 * ((30 + (σ89 93 (ix 1))) - 1)) + (σ89 84 (ix ((5 * ((σ89 85 (ix (σ89 94 (ix ((30 + (σ89 93 (ix 1))) - 1))))) + (σ89 95 (ix ((30 + (σ89 93 (ix 1))) - 1))))) + 1))))))]) (rest := []) hX (c_X12_over N n h147 _) (cwV 2 ht (in_V mw_1043 mw_1044 mw_1045 mw_861 mw_1011) rfl rfl rfl pd_X12_over ⟨Nat.le_of_ble_eq_true rfl, Nat.le_of_ble_eq_true rfl⟩) ⟨q_blind, va_recv hK hI.1 (ci := 11) (q0 := 59) rfl rfl, q_to hI hK hN hZ hA⟩ rfl rfl hl.1 rfl (lv_room (Nat.le_of_ble_eq_true rfl)) dX12_stepRegisters_359 (by decide)) (fun H locs hI => ?_)
      exact hR _ _ _ _ _ hm hI dX12_stepRegisters_362
    have hm := (if_neg c143).symm.trans hm
    by_cases c148 : (σ89 84 (ix (5 * ((σ89 85 (ix (σ89 94 (ix ((30 + (σ89 93 (ix 1))) - 1))))) + (σ89 95 (ix ((30 + (σ89 93 (ix 1))) - 1))))))) = 7
    · have hm := (if_pos c148).symm.trans hm
      refine lv_tableIn (off := 254) (tgt := 363) hx hb dX12_stepRegisters_109 (by (rw [c148]; decide)) (by (rw [c148]; decide)) (by (rw [c148]; rfl)) (by decide) ?_
      refine lv_aload_n hx hb dX12_stepRegisters_363 rfl (lv_at hl 6 rfl) ?_
      refine gf_59_46 hx hb ht hK hI mw_791 (fun _ h9 => h9) hown dX12_stepRegisters_364 ?_
      refine lv_iload hx hb dX12_stepRegisters_367 (lv_at hl 0 rfl) ?_
      refine lv_iload hx hb dX12_stepRegisters_369 (lv_at hl 2 rfl) ?_
      refine lv_iadd hx hb dX12_stepRegisters_371 ?_
      obtain ⟨g149, hm⟩ := gb_some hm
      refine ld_96 hx hb hK hI g149 (v := σ89 96 (ix ((24 * ((30 + (σ89 93 (ix 1))) - 1)) + (σ89 84 (ix ((5 * ((σ89 85 (ix (σ89 94 (ix ((30 + (σ89 93 (ix 1))) - 1))))) + (σ89 95 (ix ((30 + (σ89 93 (ix 1))) - 1))))) + 2)))))) rfl dX12_stepRegisters_372 ?_
      obtain ⟨r150, σ151, h152, hm⟩ := bd_some hm
      refine k_i hI hA (va_runS (As := [.int (σ89 96 (ix ((24 * ((30 + (σ89 93 (ix 1))) - 1)) + (σ89 84 (ix ((5 * ((σ89 85 (ix (σ89 94 (ix ((30 + (σ89 93 (ix 1))) - 1))))) + (σ89 95 (ix ((30 + (σ89 93 (ix 1))) - 1))))) + 2))))))]) (rest := []) hX (c_X12_isCell N n h152 _) (va_cwS 1 ht (in_S mw_1030 mw_1031 mw_861 mw_1028) rfl rfl rfl pd_X12_isCell ⟨Nat.le_of_ble_eq_true rfl, Nat.le_of_ble_eq_true rfl⟩) ⟨q_blind, q_to hI hK hN hZ hA⟩ rfl rfl hl.1 rfl (lv_room (Nat.le_of_ble_eq_true rfl)) dX12_stepRegisters_373 (by decide)) (fun H locs hI => ?_)
      refine lv_if_ne (tgt := 386) hx hb dX12_stepRegisters_376 (by decide) (fun c153 => ?_) (fun c153 => ?_)
      · have hm := (if_neg c153).symm.trans hm
        refine lv_aload_n hx hb dX12_stepRegisters_386 rfl (lv_at hl 6 rfl) ?_
        refine gf_59_46 hx hb ht hK hI mw_791 (fun _ h9 => h9) hown dX12_stepRegisters_387 ?_
        refine lv_iload hx hb dX12_stepRegisters_390 (lv_at hl 0 rfl) ?_
        refine lv_iload_n hx hb dX12_stepRegisters_392 rfl (lv_at hl 3 rfl) ?_
        refine lv_iadd hx hb dX12_stepRegisters_393 ?_
        refine lv_aload_n hx hb dX12_stepRegisters_394 rfl (lv_at hl 6 rfl) ?_
        refine gf_59_38 hx hb ht hK hI mw_783 (fun _ h9 => h9) hown dX12_stepRegisters_395 ?_
        refine lv_bipush (v := 64) hx hb dX12_stepRegisters_398 (by decide) ?_
        refine lv_aload_n hx hb dX12_stepRegisters_400 rfl (lv_at hl 6 rfl) ?_
        refine gf_59_46 hx hb ht hK hI mw_791 (fun _ h9 => h9) hown dX12_stepRegisters_401 ?_
        refine lv_iload hx hb dX12_stepRegisters_404 (lv_at hl 0 rfl) ?_
        refine lv_iload hx hb dX12_stepRegisters_406 (lv_at hl 2 rfl) ?_
        refine lv_iadd hx hb dX12_stepRegisters_408 ?_
        obtain ⟨g154, hm⟩ := gb_some hm
        refine ld_96 hx hb hK hI g154 (v := σ151 96 (ix ((24 * ((30 + (σ89 93 (ix 1))) - 1)) + (σ89 84 (ix ((5 * ((σ89 85 (ix (σ89 94 (ix ((30 + (σ89 93 (ix 1))) - 1))))) + (σ89 95 (ix ((30 + (σ89 93 (ix 1))) - 1))))) + 2)))))) rfl dX12_stepRegisters_409 ?_
        refine lv_iadd hx hb dX12_stepRegisters_410 ?_
        obtain ⟨g155, hm⟩ := gb_some hm
        refine ld_88 hx hb hK hI g155 (v := σ151 88 (ix (64 + (σ151 96 (ix ((24 * ((30 + (σ89 93 (ix 1))) - 1)) + (σ89 84 (ix ((5 * ((σ89 85 (ix (σ89 94 (ix ((30 + (σ89 93 (ix 1))) - 1))))) + (σ89 95 (ix ((30 + (σ89 93 (ix 1))) - 1))))) + 2))))))))) rfl dX12_stepRegisters_411 ?_
        obtain ⟨g156, hm⟩ := gb_some hm
        refine sv_96 hx hb hK hI g156 dX12_stepRegisters_412 (fun H locs hI => ?_)
        exact hR _ _ _ _ _ hm hI dX12_stepRegisters_413
      · have hm := (if_pos c153).symm.trans hm
        refine lv_aload_n hx hb dX12_stepRegisters_379 rfl (lv_at hl 6 rfl) ?_
        refine lv_iconst (v := 1) hx hb dX12_stepRegisters_380 (by decide) ?_
        refine lv_iconst (v := 3) hx hb dX12_stepRegisters_381 (by decide) ?_
        obtain ⟨r157, σ158, h159, hm⟩ := bd_some hm
        refine k_v hI hA (va_runV (As := [.int 1, .int 3]) (rest := []) hX (c_X12_ends N n h159 _) (cwV 2 ht (in_V mw_1012 mw_1013 mw_1014 mw_861 mw_1009) rfl rfl rfl pd_X12_ends ⟨Nat.le_of_ble_eq_true rfl, Nat.le_of_ble_eq_true rfl⟩) ⟨q_blind, va_recv hK hI.1 (ci := 11) (q0 := 59) rfl rfl, q_to hI hK hN hZ hA⟩ rfl rfl hl.1 rfl (lv_room (Nat.le_of_ble_eq_true rfl)) dX12_stepRegisters_382 (by decide)) (fun H locs hI => ?_)
        exact hR _ _ _ _ _ hm hI dX12_stepRegisters_385
    have hm := (if_neg c148).symm.trans hm
    by_cases c160 : (σ89 84 (ix (5 * ((σ89 85 (ix (σ89 94 (ix ((30 + (σ89 93 (ix 1))) - 1))))) + (σ89 95 (ix ((30 + (σ89 93 (ix 1))) - 1))))))) = 8
    · have hm := (if_pos c160).symm.trans hm
      refine lv_tableIn (off := 305) (tgt := 414) hx hb dX12_stepRegisters_109 (by (rw [c160]; decide)) (by (rw [c160]; decide)) (by (rw [c160]; rfl)) (by decide) ?_
      refine lv_aload_n hx hb dX12_stepRegisters_414 rfl (lv_at hl 6 rfl) ?_
      refine gf_59_46 hx hb ht hK hI mw_791 (fun _ h9 => h9) hown dX12_stepRegisters_415 ?_
      refine lv_iload hx hb dX12_stepRegisters_418 (lv_at hl 0 rfl) ?_
      refine lv_iload_n hx hb dX12_stepRegisters_420 rfl (lv_at hl 3 rfl) ?_
      refine lv_iadd hx hb dX12_stepRegisters_421 ?_
      obtain ⟨g161, hm⟩ := gb_some hm
      refine ld_96 hx hb hK hI g161 (v := σ89 96 (ix ((24 * ((30 + (σ89 93 (ix 1))) - 1)) + (σ89 84 (ix ((5 * ((σ89 85 (ix (σ89 94 (ix ((30 + (σ89 93 (ix 1))) - 1))))) + (σ89 95 (ix ((30 + (σ89 93 (ix 1))) - 1))))) + 1)))))) rfl dX12_stepRegisters_422 ?_
      obtain ⟨r162, σ163, h164, hm⟩ := bd_some hm
      refine k_i hI hA (va_runS (As := [.int (σ89 96 (ix ((24 * ((30 + (σ89 93 (ix 1))) - 1)) + (σ89 84 (ix ((5 * ((σ89 85 (ix (σ89 94 (ix ((30 + (σ89 93 (ix 1))) - 1))))) + (σ89 95 (ix ((30 + (σ89 93 (ix 1))) - 1))))) + 1))))))]) (rest := []) hX (c_X12_isCell N n h164 _) (va_cwS 1 ht (in_S mw_1030 mw_1031 mw_861 mw_1028) rfl rfl rfl pd_X12_isCell ⟨Nat.le_of_ble_eq_true rfl, Nat.le_of_ble_eq_true rfl⟩) ⟨q_blind, q_to hI hK hN hZ hA⟩ rfl rfl hl.1 rfl (lv_room (Nat.le_of_ble_eq_true rfl)) dX12_stepRegisters_423 (by decide)) (fun H locs hI => ?_)
      refine lv_if_ne (tgt := 436) hx hb dX12_stepRegisters_426 (by decide) (fun c165 => ?_) (fun c165 => ?_)
      · have hm := (if_neg c165).symm.trans hm
        refine lv_aload_n hx hb dX12_stepRegisters_436 rfl (lv_at hl 6 rfl) ?_
        refine gf_59_38 hx hb ht hK hI mw_783 (fun _ h9 => h9) hown dX12_stepRegisters_437 ?_
        refine lv_bipush (v := 64) hx hb dX12_stepRegisters_440 (by decide) ?_
        refine lv_aload_n hx hb dX12_stepRegisters_442 rfl (lv_at hl 6 rfl) ?_
        refine gf_59_46 hx hb ht hK hI mw_791 (fun _ h9 => h9) hown dX12_stepRegisters_443 ?_
        refine lv_iload hx hb dX12_stepRegisters_446 (lv_at hl 0 rfl) ?_
        refine lv_iload_n hx hb dX12_stepRegisters_448 rfl (lv_at hl 3 rfl) ?_
        refine lv_iadd hx hb dX12_stepRegisters_449 ?_
        obtain ⟨g166, hm⟩ := gb_some hm
        refine ld_96 hx hb hK hI g166 (v := σ163 96 (ix ((24 * ((30 + (σ89 93 (ix 1))) - 1)) + (σ89 84 (ix ((5 * ((σ89 85 (ix (σ89 94 (ix ((30 + (σ89 93 (ix 1))) - 1))))) + (σ89 95 (ix ((30 + (σ89 93 (ix 1))) - 1))))) + 1)))))) rfl dX12_stepRegisters_450 ?_
        refine lv_iadd hx hb dX12_stepRegisters_451 ?_
        refine lv_aload_n hx hb dX12_stepRegisters_452 rfl (lv_at hl 6 rfl) ?_
        refine gf_59_46 hx hb ht hK hI mw_791 (fun _ h9 => h9) hown dX12_stepRegisters_453 ?_
        refine lv_iload hx hb dX12_stepRegisters_456 (lv_at hl 0 rfl) ?_
        refine lv_iload hx hb dX12_stepRegisters_458 (lv_at hl 2 rfl) ?_
        refine lv_iadd hx hb dX12_stepRegisters_460 ?_
        obtain ⟨g167, hm⟩ := gb_some hm
        refine ld_96 hx hb hK hI g167 (v := σ163 96 (ix ((24 * ((30 + (σ89 93 (ix 1))) - 1)) + (σ89 84 (ix ((5 * ((σ89 85 (ix (σ89 94 (ix ((30 + (σ89 93 (ix 1))) - 1))))) + (σ89 95 (ix ((30 + (σ89 93 (ix 1))) - 1))))) + 2)))))) rfl dX12_stepRegisters_461 ?_
        obtain ⟨g168, hm⟩ := gb_some hm
        refine sv_88 hx hb hK hI g168 dX12_stepRegisters_462 (fun H locs hI => ?_)
        exact hR _ _ _ _ _ hm hI dX12_stepRegisters_463
      · have hm := (if_pos c165).symm.trans hm
        refine lv_aload_n hx hb dX12_stepRegisters_429 rfl (lv_at hl 6 rfl) ?_
        refine lv_iconst (v := 1) hx hb dX12_stepRegisters_430 (by decide) ?_
        refine lv_iconst (v := 3) hx hb dX12_stepRegisters_431 (by decide) ?_
        obtain ⟨r169, σ170, h171, hm⟩ := bd_some hm
        refine k_v hI hA (va_runV (As := [.int 1, .int 3]) (rest := []) hX (c_X12_ends N n h171 _) (cwV 2 ht (in_V mw_1012 mw_1013 mw_1014 mw_861 mw_1009) rfl rfl rfl pd_X12_ends ⟨Nat.le_of_ble_eq_true rfl, Nat.le_of_ble_eq_true rfl⟩) ⟨q_blind, va_recv hK hI.1 (ci := 11) (q0 := 59) rfl rfl, q_to hI hK hN hZ hA⟩ rfl rfl hl.1 rfl (lv_room (Nat.le_of_ble_eq_true rfl)) dX12_stepRegisters_432 (by decide)) (fun H locs hI => ?_)
        exact hR _ _ _ _ _ hm hI dX12_stepRegisters_435
    have hm := (if_neg c160).symm.trans hm
    refine sw_d (tgt := 464) hx hb [0, 1, 2, 3, 4, 5, 6, 7, 8] dX12_stepRegisters_109 (by decide) (by decide) (ne_c (lv_neT c103 (by decide)) (ne_c (lv_neT c105 (by decide)) (ne_c (lv_neT c108 (by decide)) (ne_c (lv_neT c130 (by decide)) (ne_c (lv_neT c135 (by decide)) (ne_c (lv_neT c137 (by decide)) (ne_c (lv_neT c143 (by decide)) (ne_c (lv_neT c148 (by decide)) (ne_c (lv_neT c160 (by decide)) ne_n))))))))) (by decide) ?_
    refine lv_aload_n hx hb dX12_stepRegisters_464 rfl (lv_at hl 6 rfl) ?_
    refine lv_aload_n hx hb dX12_stepRegisters_465 rfl (lv_at hl 6 rfl) ?_
    refine gf_59_31 hx hb ht hK hI mw_779 (fun _ h9 => h9) hown dX12_stepRegisters_466 ?_
    refine lv_iload_n hx hb dX12_stepRegisters_469 rfl (lv_at hl 4 rfl) ?_
    obtain ⟨g172, hm⟩ := gb_some hm
    refine ld_84 hx hb hK hI g172 (v := σ89 84 (ix (5 * ((σ89 85 (ix (σ89 94 (ix ((30 + (σ89 93 (ix 1))) - 1))))) + (σ89 95 (ix ((30 + (σ89 93 (ix 1))) - 1))))))) rfl dX12_stepRegisters_470 ?_
    refine lv_iload_n hx hb dX12_stepRegisters_471 rfl (lv_at hl 3 rfl) ?_
    refine lv_iload hx hb dX12_stepRegisters_472 (lv_at hl 2 rfl) ?_
    refine lv_iload_n hx hb dX12_stepRegisters_474 rfl (lv_at hl 5 rfl) ?_
    obtain ⟨r173, σ174, h175, hm⟩ := bd_some hm
    refine k_v hI hA (va_runV (As := [.int (σ89 84 (ix (5 * ((σ89 85 (ix (σ89 94 (ix ((30 + (σ89 93 (ix 1))) - 1))))) + (σ89 95 (ix ((30 + (σ89 93 (ix 1))) - 1))))))), .int (σ89 84 (ix ((5 * ((σ89 85 (ix (σ89 94 (ix ((30 + (σ89 93 (ix 1))) - 1))))) + (σ89 95 (ix ((30 + (σ89 93 (ix 1))) - 1))))) + 1))), .int (σ89 84 (ix ((5 * ((σ89 85 (ix (σ89 94 (ix ((30 + (σ89 93 (ix 1))) - 1))))) + (σ89 95 (ix ((30 + (σ89 93 (ix 1))) - 1))))) + 2))), .int ((30 + (σ89 93 (ix 1))) - 1)]) (rest := []) hX (c_X12_stepCall N n h175 _) (cwV 4 ht (in_V mw_1057 mw_1058 mw_1059 mw_861 mw_1056) rfl rfl rfl pd_X12_stepCall ⟨Nat.le_of_ble_eq_true rfl, Nat.le_of_ble_eq_true rfl⟩) ⟨q_blind, va_recv hK hI.1 (ci := 11) (q0 := 59) rfl rfl, q_to hI hK hN hZ hA⟩ rfl rfl hl.1 rfl (lv_room (Nat.le_of_ble_eq_true rfl)) dX12_stepRegisters_475 (by decide)) (fun H locs hI => ?_)
    exact hR _ _ _ _ _ hm hI dX12_stepRegisters_478
