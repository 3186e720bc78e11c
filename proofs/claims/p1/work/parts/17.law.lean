set_option maxHeartbeats 8000000 in
set_option maxRecDepth 100000 in
/-- THE LAW, from its entry -/
theorem whole_start {p : Program} {e : Env} {s : State} {m : MethodId} {below : List Frame} {meth : Method} {c : Code} (l : Launch) (hst : l.stackTraces = false) {b L : Nat} {xs : Nat → Int32} (hL : L ≤ 4) (C0 : lw_At p s m meth c b L xs) : W p l e room_1 s m #[Value.ref b] below meth c s.heap [] 0 0 (lw_Z below #[Value.ref b] s) (entryFrame m ([Value.ref b] : List Value).toArray 7) := by
  obtain ⟨hx, hb, hr, hml, hown, hts, hX, hbl, hlocks, hgv⟩ := id C0
  have hown : s.vm.findClass RL = some m.cls := hown
  obtain ⟨c0, iS0, hKn0⟩ := u_known (C := RX0) (T := TX0) (N := 3) (n := 3) hts hiT_X0 (hts (.instantiable RX0 3) (List.mem_of_getElem? (i := 194) (by decide +kernel)))
  obtain ⟨c1, iS1, hKn1⟩ := u_known (C := RX1) (T := TX1) (N := 4) (n := 4) hts hiT_X1 (hts (.instantiable RX1 4) (List.mem_of_getElem? (i := 309) (by decide +kernel)))
  obtain ⟨c2, iS2, hKn2⟩ := u_known (C := RX2) (T := TX2) (N := 6) (n := 6) hts hiT_X2 (hts (.instantiable RX2 6) (List.mem_of_getElem? (i := 283) (by decide +kernel)))
  obtain ⟨c3, iS3, hKn3⟩ := u_known (C := RX3) (T := TX3) (N := 2) (n := 2) hts hiT_X3 (hts (.instantiable RX3 2) (List.mem_of_getElem? (i := 267) (by decide +kernel)))
  obtain ⟨c4, iS4, hKn4⟩ := u_known (C := RX5) (T := TX5) (N := 10) (n := 10) hts hiT_X5 (hts (.instantiable RX5 10) (List.mem_of_getElem? (i := 217) (by decide +kernel)))
  obtain ⟨c5, iS5, hKn5⟩ := u_known (C := RX6) (T := TX6) (N := 10) (n := 10) hts hiT_X6 (hts (.instantiable RX6 10) (List.mem_of_getElem? (i := 129) (by decide +kernel)))
  obtain ⟨c6, iS6, hKn6⟩ := u_known (C := RX7) (T := TX7) (N := 13) (n := 13) hts hiT_X7 (hts (.instantiable RX7 13) (List.mem_of_getElem? (i := 443) (by decide +kernel)))
  obtain ⟨c7, iS7, hKn7⟩ := u_known (C := RX8) (T := TX8) (N := 13) (n := 13) hts hiT_X8 (hts (.instantiable RX8 13) (List.mem_of_getElem? (i := 389) (by decide +kernel)))
  obtain ⟨c8, iS8, hKn8⟩ := u_known (C := RX9) (T := TX9) (N := 8) (n := 8) hts hiT_X9 (hts (.instantiable RX9 8) (List.mem_of_getElem? (i := 211) (by decide +kernel)))
  obtain ⟨c9, iS9, hKn9⟩ := u_known (C := RX10) (T := TX10) (N := 7) (n := 7) hts hiT_X10 (hts (.instantiable RX10 7) (List.mem_of_getElem? (i := 332) (by decide +kernel)))
  obtain ⟨c10, iS10, hKn10⟩ := u_known (C := RX11) (T := TX11) (N := 5) (n := 5) hts hiT_X11 (hts (.instantiable RX11 5) (List.mem_of_getElem? (i := 121) (by decide +kernel)))
  obtain ⟨c11, iS11, hKn11⟩ := u_known (C := RX12) (T := TX12) (N := 52) (n := 52) hts hiT_X12 (hts (.instantiable RX12 52) (List.mem_of_getElem? (i := 1102) (by decide +kernel)))
  obtain ⟨dC, dI, hKc0⟩ : ∃ (dC : Nat → ClassId) (dI : Nat → Nat → Nat), ∀ (k : Nat) (q : vw_C), vwCl[k]? = some q → u_Kn s q.1 q.2.1 q.2.2 (dC k) (dI k) := by
    refine ⟨fun k => if k = 0 then c0 else if k = 1 then c1 else if k = 2 then c2 else if k = 3 then c3 else if k = 4 then c4 else if k = 5 then c5 else if k = 6 then c6 else if k = 7 then c7 else if k = 8 then c8 else if k = 9 then c9 else if k = 10 then c10 else c11, fun k => if k = 0 then iS0 else if k = 1 then iS1 else if k = 2 then iS2 else if k = 3 then iS3 else if k = 4 then iS4 else if k = 5 then iS5 else if k = 6 then iS6 else if k = 7 then iS7 else if k = 8 then iS8 else if k = 9 then iS9 else if k = 10 then iS10 else iS11, ?_⟩
    intro k q hq
    match k, hq with
    | 0, hq => cases hq; exact hKn0
    | 1, hq => cases hq; exact hKn1
    | 2, hq => cases hq; exact hKn2
    | 3, hq => cases hq; exact hKn3
    | 4, hq => cases hq; exact hKn4
    | 5, hq => cases hq; exact hKn5
    | 6, hq => cases hq; exact hKn6
    | 7, hq => cases hq; exact hKn7
    | 8, hq => cases hq; exact hKn8
    | 9, hq => cases hq; exact hKn9
    | 10, hq => cases hq; exact hKn10
    | 11, hq => cases hq; exact hKn11
    | k + 12, hq => simp [vwCl] at hq
  obtain ⟨cyI, kyI, cpI, hcyI, hkyI, hkdI⟩ := Cond.arrayClass_spec (hts (.arrayClass .int) (List.mem_of_getElem? (i := 192) (by decide +kernel)))
  have hK : va_K (dC, dI) vwCl [(cyI, .int)] s := ⟨hKc0, fun k q h => by
    match k, h with
    | 0, h => cases h; exact ⟨fun n z => ⟨fun k h => (by cases h), kyI, hkyI, cpI, hkdI⟩, hcyI⟩
    | k + 1, h => simp at h⟩
  have hNW : nw_all s := ⟨nw_AO.of (hts (.arrayOver (.array .int)) (List.mem_of_getElem? (i := 223) (by decide +kernel))), va_Nw.of rfl (hts (.methodLinkNest RX11 11 yX6_init "RegisterMill") (List.mem_of_getElem? (i := 130) (by decide +kernel))), va_Nw.of rfl (hts (.methodLinkNest RX9 11 yX5_init "RegisterMill") (List.mem_of_getElem? (i := 218) (by decide +kernel))), va_Nw.of rfl (hts (.methodLinkNest RX9 20 yX3_init "RegisterMill") (List.mem_of_getElem? (i := 268) (by decide +kernel))), va_Nw.of rfl (hts (.methodLinkNest RX9 27 yX2_init "RegisterMill") (List.mem_of_getElem? (i := 284) (by decide +kernel))), va_Nw.of rfl (hts (.methodLinkNest RX9 34 yX1_init "RegisterMill") (List.mem_of_getElem? (i := 310) (by decide +kernel))), va_Nw.of rfl (hts (.methodLinkNest RX7 3 yX4_init "RegisterMill") (List.mem_of_getElem? (i := 447) (by decide +kernel))), va_Nw.of rfl (hts (.methodLinkNest RX8 3 yX4_init "RegisterMill") (List.mem_of_getElem? (i := 393) (by decide +kernel)))⟩
  obtain ⟨A, hAd⟩ : ∃ A : Nat → Prop, A = fun q => s.heap.size ≤ q := ⟨_, rfl⟩
  have hA : ∀ q : Nat, s.heap.size ≤ q → A q := fun q h => by rw [hAd]; exact h
  have hAr : ∀ q : Nat, A q → s.heap.size ≤ q := fun q h => by rw [hAd] at h; exact h
  have hnA : ∀ q : Nat, q < s.heap.size → ¬ A q := fun q h h2 => Nat.not_le.mpr h (hAr q h2)
  have hbA : ¬ A b := hnA b hbl
  have hflat := flat_of_before _ hgv
  have hUr : (Cond.isRef (.static Bundle.tN "UNASSIGNED_STACK" Bundle.steD)).before #[Value.ref b] s = true := hflat _ (by decide +kernel)
  have hSr : (Cond.isRef (.static Bundle.tN "SUPPRESSED_SENTINEL" Bundle.listD)).before #[Value.ref b] s = true := hflat _ (by decide +kernel)
  obtain ⟨sa, -, -, -, hsa, -⟩ := Cond.exactly_spec (hflat (.exactly (.string "RegisterMill" 127) "java/lang/String") (by decide +kernel))
  obtain ⟨sb, -, -, -, hsb, -⟩ := Cond.exactly_spec (hflat (.exactly (.string "RegisterMill" 166) "java/lang/String") (by decide +kernel))
  have hZ : tz_pre A sa sb s s.heap := ⟨⟨va_Nw.of rfl (hts (.declares ⟨"java/lang/RuntimeException", "<init>", "(Ljava/lang/String;)V"⟩) (List.mem_of_getElem? (i := 1029) (by decide +kernel))), va_Nw.of rfl (hts (.declares ⟨"java/lang/Exception", "<init>", "(Ljava/lang/String;)V"⟩) (List.mem_of_getElem? (i := 1031) (by decide +kernel))), va_Nw.of rfl (hts (.declares ⟨"java/lang/Throwable", "<init>", "(Ljava/lang/String;)V"⟩) (List.mem_of_getElem? (i := 1033) (by decide +kernel))), va_Nw.of rfl (hts (.castable "java/util/NoSuchElementException" "java/util/NoSuchElementException") (List.mem_of_getElem? (i := 1027) (by decide +kernel)))⟩, vx_Zqof (hts (.laysStatic "java/lang/Throwable" "UNASSIGNED_STACK" "[Ljava/lang/StackTraceElement;") (List.mem_of_getElem? (i := 1052) (by decide +kernel))) (hts (.initialized "java/lang/Throwable") (List.mem_of_getElem? (i := 116) (by decide +kernel))) hUr hnA, vx_Zqof (hts (.laysStatic "java/lang/Throwable" "SUPPRESSED_SENTINEL" "Ljava/util/List;") (List.mem_of_getElem? (i := 1054) (by decide +kernel))) (hts (.initialized "java/lang/Throwable") (List.mem_of_getElem? (i := 116) (by decide +kernel))) hSr hnA, vk_R.of (hts (.stringRef "RegisterMill" 127 "no such op") (List.mem_of_getElem? (i := 1064) (by decide +kernel))) hsa, vk_R.of (hts (.stringRef "RegisterMill" 166 "no such cell") (List.mem_of_getElem? (i := 1100) (by decide +kernel))) hsb⟩
  have hiX11 := hiT_X11
  have hiX6 := hiT_X6
  have hiX0 := hiT_X0
  have hiX9 := hiT_X9
  have hiX5 := hiT_X5
  have hiX3 := hiT_X3
  have hiX2 := hiT_X2
  have hiX1 := hiT_X1
  have hiX10 := hiT_X10
  have hiX8 := hiT_X8
  have hiX7 := hiT_X7
  have hiX12 := hiT_X12
  have hS : va_S A s.heap s.heap [] := va_S.rf
  have hP : va_P (dC, dI) vwCl [] s.heap := pz_Pn
  have hD : va_D A [] := pz_Dn
  have hl := lv_entry ([.ref b]) (n := 7) (Nat.le_of_ble_eq_true rfl)
  rw [lg_entry_eq]
  generalize (lg_sl ([.ref b]) ++ List.replicate (7 - (lg_sl ([.ref b])).length) Slot.unset).toArray = ls at hl ⊢
  have hl : lv_has ls 7 [(0, .ref b)] := hl
  refine va_new (ci := 10) (fs := [.null, .null, .null, .null, .null]) (C := RX11) (T := TX11) (N := 5) hx hb hts hiX11 tyX11 tyX11_ok hown (hts (.classLink RL 8 RX11) (List.mem_of_getElem? (i := 120) (by decide +kernel))) (hts (.instantiable RX11 5) (List.mem_of_getElem? (i := 121) (by decide +kernel))) (hts (.initialized RX11) (List.mem_of_getElem? (i := 100) (by decide +kernel))) hK hP hD hS hA rfl (fun j hj => fsX11 j hj) (by decide) (by decide) dL_law_0 (fun q_1 H hP hD hS => ?_)
  have hP : va_P (dC, dI) vwCl [(q_1, .inr (10, [.null, .null, .null, .null, .null]))] H := hP
  have hD : va_D A [(q_1, .inr (10, [.null, .null, .null, .null, .null]))] := hD
  refine W.widen (k := 1) (n := 5) (by omega) (by omega) ?_
  refine lv_dup hx hb dL_law_3 rfl ?_
  have hPc := hP.sub (ws' := [(q_1, .inr (10, [.null, .null, .null, .null, .null]))]) [0] rfl
  have hDc := hD.sub (ws' := [(q_1, .inr (10, [.null, .null, .null, .null, .null]))]) [0] (by decide) rfl
  have hKc := hK.sub (tys' := [(cyI, .int)]) [0] rfl
  have hFc := va_free (wc := [(q_1, .inr (10, [.null, .null, .null, .null, .null]))]) hD hS hA [0] rfl
  refine va_callv (va_runI (As := []) (rest := [.ref q_1]) ⟨hx, hb, hml, hown, hts⟩ (c_X11_init l dC dI cyI H.size q_1) (cwI 0 hts gq_L_law_X11_init_19 rfl rfl rfl (hts (.initialized RX11) (List.mem_of_getElem? (i := 100) (by decide +kernel))) (hts (.methodLink RL 19 yX11_init) (List.mem_of_getElem? (i := 122) (by decide +kernel))) (hts (.instanceMethod yX11_init) (List.mem_of_getElem? (i := 123) (by decide +kernel))) rfl (by decide +kernel) ⟨Nat.le_of_ble_eq_true rfl, Nat.le_of_ble_eq_true rfl⟩) ⟨pz_blind, pz_to hPc hKc hDc hNW⟩ rfl rfl hl.1 rfl (lv_room (Nat.le_of_ble_eq_true rfl)) dL_law_4 (by decide)) hS (fun q _ h => hFc q h) hFc (fun u t H1 locs ht hvm hw hB hz1 hk1 hS => ?_)
  obtain ⟨q_3, q_4, q_5, q_6, q_7, q_8, q_9, q_10, q_11, q_12, q_13, q_14, q_15, q_16, q_17, q_18, q_19, q_20, q_21, q_22, q_23, q_24, q_25, q_26, q_27, q_28, q_29, q_30, q_31, q_32, q_33, hP1, hK1, hD1⟩ := hB
  rw [ht] at hP1
  obtain ⟨hP, hD⟩ := va_join (wr := []) (w1 := [(q_1, .inr (10, [.ref q_3, .ref q_4, .ref q_5, .ref q_6, .ref q_7])), (q_3, .inr (5, [.ref q_8, .ref q_9, .ref q_10, .ref q_11, .ref q_12, .ref q_13, .ref q_14, .int 0, .int 0, .int 0])), (q_8, .inl (cyI, 12, .inl (fun _ => 0))), (q_9, .inl (cyI, 12, .inl (fun _ => 0))), (q_10, .inl (cyI, 12, .inl (fun _ => 0))), (q_11, .inl (cyI, 12, .inl (fun _ => 0))), (q_4, .inr (0, [.ref q_3, .ref q_15, .int 0])), (q_5, .inr (8, [.ref q_3, .ref q_16, .ref q_17, .ref q_18, .ref q_19, .ref q_20, .ref q_21, .int 0])), (q_6, .inr (7, [.ref q_22, .ref q_23, .ref q_24, .int 0, .int 0, .int 0, .int 0, .int 0, .ref q_3, .ref q_25, .ref q_26, .ref q_27, .int 0])), (q_22, .inl (cyI, 64, .inl (fun _ => 0))), (q_7, .inr (6, [.ref q_28, .ref q_29, .ref q_30, .int 0, .int 0, .int 0, .int 0, .int 0, .ref q_19, .ref q_31, .ref q_32, .ref q_33, .int 0])), (q_28, .inl (cyI, 64, .inl (fun _ => 0))), (q_33, .inl (cyI, 6, .inl (fun _ => 0)))]) hP hD [0] [] rfl rfl (by decide) (by decide) hk1 hFc hP1 hD1
  generalize H1 = H at hP hS ⊢
  have hP : va_P (dC, dI) vwCl [(q_1, .inr (10, [.ref q_3, .ref q_4, .ref q_5, .ref q_6, .ref q_7])), (q_3, .inr (5, [.ref q_8, .ref q_9, .ref q_10, .ref q_11, .ref q_12, .ref q_13, .ref q_14, .int 0, .int 0, .int 0])), (q_8, .inl (cyI, 12, .inl (fun _ => 0))), (q_9, .inl (cyI, 12, .inl (fun _ => 0))), (q_10, .inl (cyI, 12, .inl (fun _ => 0))), (q_11, .inl (cyI, 12, .inl (fun _ => 0))), (q_4, .inr (0, [.ref q_3, .ref q_15, .int 0])), (q_5, .inr (8, [.ref q_3, .ref q_16, .ref q_17, .ref q_18, .ref q_19, .ref q_20, .ref q_21, .int 0])), (q_6, .inr (7, [.ref q_22, .ref q_23, .ref q_24, .int 0, .int 0, .int 0, .int 0, .int 0, .ref q_3, .ref q_25, .ref q_26, .ref q_27, .int 0])), (q_22, .inl (cyI, 64, .inl (fun _ => 0))), (q_7, .inr (6, [.ref q_28, .ref q_29, .ref q_30, .int 0, .int 0, .int 0, .int 0, .int 0, .ref q_19, .ref q_31, .ref q_32, .ref q_33, .int 0])), (q_28, .inl (cyI, 64, .inl (fun _ => 0))), (q_33, .inl (cyI, 6, .inl (fun _ => 0)))] H := hP
  have hD : va_D A [(q_1, .inr (10, [.ref q_3, .ref q_4, .ref q_5, .ref q_6, .ref q_7])), (q_3, .inr (5, [.ref q_8, .ref q_9, .ref q_10, .ref q_11, .ref q_12, .ref q_13, .ref q_14, .int 0, .int 0, .int 0])), (q_8, .inl (cyI, 12, .inl (fun _ => 0))), (q_9, .inl (cyI, 12, .inl (fun _ => 0))), (q_10, .inl (cyI, 12, .inl (fun _ => 0))), (q_11, .inl (cyI, 12, .inl (fun _ => 0))), (q_4, .inr (0, [.ref q_3, .ref q_15, .int 0])), (q_5, .inr (8, [.ref q_3, .ref q_16, .ref q_17, .ref q_18, .ref q_19, .ref q_20, .ref q_21, .int 0])), (q_6, .inr (7, [.ref q_22, .ref q_23, .ref q_24, .int 0, .int 0, .int 0, .int 0, .int 0, .ref q_3, .ref q_25, .ref q_26, .ref q_27, .int 0])), (q_22, .inl (cyI, 64, .inl (fun _ => 0))), (q_7, .inr (6, [.ref q_28, .ref q_29, .ref q_30, .int 0, .int 0, .int 0, .int 0, .int 0, .ref q_19, .ref q_31, .ref q_32, .ref q_33, .int 0])), (q_28, .inl (cyI, 64, .inl (fun _ => 0))), (q_33, .inl (cyI, 6, .inl (fun _ => 0)))] := hD
  refine W.widen (k := 59) (n := 11361) (by omega) (by omega) ?_
  refine lv_astore_n (lv' := [(1, .ref q_1), (0, .ref b)]) hx hb dL_law_7 rfl hl (by decide) rfl (fun ls hl => ?_)
  refine va_new (ci := 11) (fs := [.int 0, .int 0, .null, .null, .null, .null, .int 0, .null, .null, .null, .int 0, .null, .int 0, .null, .null, .null, .null, .null, .null, .null, .null, .null, .int 0, .null, .null, .null, .null, .null, .null, .null, .int 0, .null, .null, .null, .int 0, .int 0, .null, .int 0, .null, .null, .null, .null, .null, .null, .null, .null, .null, .null, .null, .null, .null, .null]) (C := RX12) (T := TX12) (N := 52) hx hb hts hiX12 tyX12 tyX12_ok hown (hts (.classLink RL 20 RX12) (List.mem_of_getElem? (i := 1101) (by decide +kernel))) (hts (.instantiable RX12 52) (List.mem_of_getElem? (i := 1102) (by decide +kernel))) (hts (.initialized RX12) (List.mem_of_getElem? (i := 112) (by decide +kernel))) hK hP hD hS hA rfl (fun j hj => fsX12 j hj) (by decide) (by decide) dL_law_8 (fun q_34 H hP hD hS => ?_)
  have hP : va_P (dC, dI) vwCl [(q_1, .inr (10, [.ref q_3, .ref q_4, .ref q_5, .ref q_6, .ref q_7])), (q_3, .inr (5, [.ref q_8, .ref q_9, .ref q_10, .ref q_11, .ref q_12, .ref q_13, .ref q_14, .int 0, .int 0, .int 0])), (q_8, .inl (cyI, 12, .inl (fun _ => 0))), (q_9, .inl (cyI, 12, .inl (fun _ => 0))), (q_10, .inl (cyI, 12, .inl (fun _ => 0))), (q_11, .inl (cyI, 12, .inl (fun _ => 0))), (q_4, .inr (0, [.ref q_3, .ref q_15, .int 0])), (q_5, .inr (8, [.ref q_3, .ref q_16, .ref q_17, .ref q_18, .ref q_19, .ref q_20, .ref q_21, .int 0])), (q_6, .inr (7, [.ref q_22, .ref q_23, .ref q_24, .int 0, .int 0, .int 0, .int 0, .int 0, .ref q_3, .ref q_25, .ref q_26, .ref q_27, .int 0])), (q_22, .inl (cyI, 64, .inl (fun _ => 0))), (q_7, .inr (6, [.ref q_28, .ref q_29, .ref q_30, .int 0, .int 0, .int 0, .int 0, .int 0, .ref q_19, .ref q_31, .ref q_32, .ref q_33, .int 0])), (q_28, .inl (cyI, 64, .inl (fun _ => 0))), (q_33, .inl (cyI, 6, .inl (fun _ => 0))), (q_34, .inr (11, [.int 0, .int 0, .null, .null, .null, .null, .int 0, .null, .null, .null, .int 0, .null, .int 0, .null, .null, .null, .null, .null, .null, .null, .null, .null, .int 0, .null, .null, .null, .null, .null, .null, .null, .int 0, .null, .null, .null, .int 0, .int 0, .null, .int 0, .null, .null, .null, .null, .null, .null, .null, .null, .null, .null, .null, .null, .null, .null]))] H := hP
  have hD : va_D A [(q_1, .inr (10, [.ref q_3, .ref q_4, .ref q_5, .ref q_6, .ref q_7])), (q_3, .inr (5, [.ref q_8, .ref q_9, .ref q_10, .ref q_11, .ref q_12, .ref q_13, .ref q_14, .int 0, .int 0, .int 0])), (q_8, .inl (cyI, 12, .inl (fun _ => 0))), (q_9, .inl (cyI, 12, .inl (fun _ => 0))), (q_10, .inl (cyI, 12, .inl (fun _ => 0))), (q_11, .inl (cyI, 12, .inl (fun _ => 0))), (q_4, .inr (0, [.ref q_3, .ref q_15, .int 0])), (q_5, .inr (8, [.ref q_3, .ref q_16, .ref q_17, .ref q_18, .ref q_19, .ref q_20, .ref q_21, .int 0])), (q_6, .inr (7, [.ref q_22, .ref q_23, .ref q_24, .int 0, .int 0, .int 0, .int 0, .int 0, .ref q_3, .ref q_25, .ref q_26, .ref q_27, .int 0])), (q_22, .inl (cyI, 64, .inl (fun _ => 0))), (q_7, .inr (6, [.ref q_28, .ref q_29, .ref q_30, .int 0, .int 0, .int 0, .int 0, .int 0, .ref q_19, .ref q_31, .ref q_32, .ref q_33, .int 0])), (q_28, .inl (cyI, 64, .inl (fun _ => 0))), (q_33, .inl (cyI, 6, .inl (fun _ => 0))), (q_34, .inr (11, [.int 0, .int 0, .null, .null, .null, .null, .int 0, .null, .null, .null, .int 0, .null, .int 0, .null, .null, .null, .null, .null, .null, .null, .null, .null, .int 0, .null, .null, .null, .null, .null, .null, .null, .int 0, .null, .null, .null, .int 0, .int 0, .null, .int 0, .null, .null, .null, .null, .null, .null, .null, .null, .null, .null, .null, .null, .null, .null]))] := hD
  refine W.widen (k := 60) (n := 11413) (by omega) (by omega) ?_
  refine lv_dup hx hb dL_law_11 rfl ?_
  have hPc := hP.sub (ws' := [(q_34, .inr (11, [.int 0, .int 0, .null, .null, .null, .null, .int 0, .null, .null, .null, .int 0, .null, .int 0, .null, .null, .null, .null, .null, .null, .null, .null, .null, .int 0, .null, .null, .null, .null, .null, .null, .null, .int 0, .null, .null, .null, .int 0, .int 0, .null, .int 0, .null, .null, .null, .null, .null, .null, .null, .null, .null, .null, .null, .null, .null, .null]))]) [13] rfl
  have hDc := hD.sub (ws' := [(q_34, .inr (11, [.int 0, .int 0, .null, .null, .null, .null, .int 0, .null, .null, .null, .int 0, .null, .int 0, .null, .null, .null, .null, .null, .null, .null, .null, .null, .int 0, .null, .null, .null, .null, .null, .null, .null, .int 0, .null, .null, .null, .int 0, .int 0, .null, .int 0, .null, .null, .null, .null, .null, .null, .null, .null, .null, .null, .null, .null, .null, .null]))]) [13] (by decide) rfl
  have hKc := hK.sub (tys' := [(cyI, .int)]) [0] rfl
  have hFc := va_free (wc := [(q_34, .inr (11, [.int 0, .int 0, .null, .null, .null, .null, .int 0, .null, .null, .null, .int 0, .null, .int 0, .null, .null, .null, .null, .null, .null, .null, .null, .null, .int 0, .null, .null, .null, .null, .null, .null, .null, .int 0, .null, .null, .null, .int 0, .int 0, .null, .int 0, .null, .null, .null, .null, .null, .null, .null, .null, .null, .null, .null, .null, .null, .null]))]) hD hS hA [13] rfl
  refine va_callv (va_runI (As := []) (rest := [.ref q_34]) ⟨hx, hb, hml, hown, hts⟩ (c_X12_init l dC dI cyI H.size q_34) (cwI 0 hts gq_L_law_X12_init_22 rfl rfl rfl (hts (.initialized RX12) (List.mem_of_getElem? (i := 112) (by decide +kernel))) (hts (.methodLink RL 22 yX12_init) (List.mem_of_getElem? (i := 1103) (by decide +kernel))) (hts (.instanceMethod yX12_init) (List.mem_of_getElem? (i := 1104) (by decide +kernel))) rfl (by decide +kernel) ⟨Nat.le_of_ble_eq_true rfl, Nat.le_of_ble_eq_true rfl⟩) ⟨pz_blind, pz_to hPc hKc hDc hNW⟩ rfl rfl hl.1 rfl (lv_room (Nat.le_of_ble_eq_true rfl)) dL_law_12 (by decide)) hS (fun q _ h => hFc q h) hFc (fun u t H1 locs ht hvm hw hB hz1 hk1 hS => ?_)
  obtain ⟨q_36, q_37, q_38, q_39, q_40, q_41, q_42, q_43, q_44, q_45, q_46, q_47, q_48, q_49, q_50, q_51, q_52, q_53, q_54, q_55, q_56, q_57, q_58, q_59, q_60, q_61, q_62, q_63, q_64, q_65, q_66, q_67, q_68, q_69, q_70, q_71, q_72, q_73, q_74, q_75, q_76, q_77, hP1, hK1, hD1⟩ := hB
  rw [ht] at hP1
  obtain ⟨hP, hD⟩ := va_join (wr := [(q_1, .inr (10, [.ref q_3, .ref q_4, .ref q_5, .ref q_6, .ref q_7])), (q_3, .inr (5, [.ref q_8, .ref q_9, .ref q_10, .ref q_11, .ref q_12, .ref q_13, .ref q_14, .int 0, .int 0, .int 0])), (q_8, .inl (cyI, 12, .inl (fun _ => 0))), (q_9, .inl (cyI, 12, .inl (fun _ => 0))), (q_10, .inl (cyI, 12, .inl (fun _ => 0))), (q_11, .inl (cyI, 12, .inl (fun _ => 0))), (q_4, .inr (0, [.ref q_3, .ref q_15, .int 0])), (q_5, .inr (8, [.ref q_3, .ref q_16, .ref q_17, .ref q_18, .ref q_19, .ref q_20, .ref q_21, .int 0])), (q_6, .inr (7, [.ref q_22, .ref q_23, .ref q_24, .int 0, .int 0, .int 0, .int 0, .int 0, .ref q_3, .ref q_25, .ref q_26, .ref q_27, .int 0])), (q_22, .inl (cyI, 64, .inl (fun _ => 0))), (q_7, .inr (6, [.ref q_28, .ref q_29, .ref q_30, .int 0, .int 0, .int 0, .int 0, .int 0, .ref q_19, .ref q_31, .ref q_32, .ref q_33, .int 0])), (q_28, .inl (cyI, 64, .inl (fun _ => 0))), (q_33, .inl (cyI, 6, .inl (fun _ => 0)))]) (w1 := [(q_34, .inr (11, [.int 0, .int 0, .ref q_36, .ref q_37, .ref q_38, .ref q_39, .int 0, .ref q_40, .ref q_41, .ref q_42, .int 0, .ref q_43, .int 0, .ref q_44, .ref q_45, .ref q_46, .ref q_47, .ref q_48, .ref q_49, .ref q_50, .ref q_51, .ref q_52, .int 0, .ref q_53, .ref q_54, .ref q_55, .ref q_56, .ref q_57, .ref q_58, .ref q_59, .int 0, .ref q_60, .ref q_61, .ref q_62, .int 0, .int 0, .ref q_63, .int 0, .ref q_64, .ref q_65, .ref q_66, .ref q_67, .ref q_68, .ref q_69, .ref q_70, .ref q_71, .ref q_72, .ref q_73, .ref q_74, .ref q_75, .ref q_76, .ref q_77])), (q_36, .inl (cyI, 12, .inl (fun _ => 0))), (q_37, .inl (cyI, 12, .inl (fun _ => 0))), (q_38, .inl (cyI, 12, .inl (fun _ => 0))), (q_39, .inl (cyI, 12, .inl (fun _ => 0))), (q_64, .inl (cyI, 128, .inl (fun _ => 0))), (q_65, .inl (cyI, 2, .inl (fun _ => 0))), (q_66, .inl (cyI, 2, .inl (fun _ => 0))), (q_67, .inl (cyI, 2, .inl (fun _ => 0))), (q_68, .inl (cyI, 2, .inl (fun _ => 0))), (q_69, .inl (cyI, 2, .inl (fun _ => 0))), (q_77, .inl (cyI, 2, .inl (fun _ => 0))), (q_76, .inl (cyI, 12, .inl (fun _ => 0)))]) hP hD [13] [0, 1, 2, 3, 4, 5, 6, 7, 8, 9, 10, 11, 12] rfl rfl (by decide) (by decide) hk1 hFc hP1 hD1
  generalize H1 = H at hP hS ⊢
  have hP : va_P (dC, dI) vwCl [(q_1, .inr (10, [.ref q_3, .ref q_4, .ref q_5, .ref q_6, .ref q_7])), (q_3, .inr (5, [.ref q_8, .ref q_9, .ref q_10, .ref q_11, .ref q_12, .ref q_13, .ref q_14, .int 0, .int 0, .int 0])), (q_8, .inl (cyI, 12, .inl (fun _ => 0))), (q_9, .inl (cyI, 12, .inl (fun _ => 0))), (q_10, .inl (cyI, 12, .inl (fun _ => 0))), (q_11, .inl (cyI, 12, .inl (fun _ => 0))), (q_4, .inr (0, [.ref q_3, .ref q_15, .int 0])), (q_5, .inr (8, [.ref q_3, .ref q_16, .ref q_17, .ref q_18, .ref q_19, .ref q_20, .ref q_21, .int 0])), (q_6, .inr (7, [.ref q_22, .ref q_23, .ref q_24, .int 0, .int 0, .int 0, .int 0, .int 0, .ref q_3, .ref q_25, .ref q_26, .ref q_27, .int 0])), (q_22, .inl (cyI, 64, .inl (fun _ => 0))), (q_7, .inr (6, [.ref q_28, .ref q_29, .ref q_30, .int 0, .int 0, .int 0, .int 0, .int 0, .ref q_19, .ref q_31, .ref q_32, .ref q_33, .int 0])), (q_28, .inl (cyI, 64, .inl (fun _ => 0))), (q_33, .inl (cyI, 6, .inl (fun _ => 0))), (q_34, .inr (11, [.int 0, .int 0, .ref q_36, .ref q_37, .ref q_38, .ref q_39, .int 0, .ref q_40, .ref q_41, .ref q_42, .int 0, .ref q_43, .int 0, .ref q_44, .ref q_45, .ref q_46, .ref q_47, .ref q_48, .ref q_49, .ref q_50, .ref q_51, .ref q_52, .int 0, .ref q_53, .ref q_54, .ref q_55, .ref q_56, .ref q_57, .ref q_58, .ref q_59, .int 0, .ref q_60, .ref q_61, .ref q_62, .int 0, .int 0, .ref q_63, .int 0, .ref q_64, .ref q_65, .ref q_66, .ref q_67, .ref q_68, .ref q_69, .ref q_70, .ref q_71, .ref q_72, .ref q_73, .ref q_74, .ref q_75, .ref q_76, .ref q_77])), (q_36, .inl (cyI, 12, .inl (fun _ => 0))), (q_37, .inl (cyI, 12, .inl (fun _ => 0))), (q_38, .inl (cyI, 12, .inl (fun _ => 0))), (q_39, .inl (cyI, 12, .inl (fun _ => 0))), (q_64, .inl (cyI, 128, .inl (fun _ => 0))), (q_65, .inl (cyI, 2, .inl (fun _ => 0))), (q_66, .inl (cyI, 2, .inl (fun _ => 0))), (q_67, .inl (cyI, 2, .inl (fun _ => 0))), (q_68, .inl (cyI, 2, .inl (fun _ => 0))), (q_69, .inl (cyI, 2, .inl (fun _ => 0))), (q_77, .inl (cyI, 2, .inl (fun _ => 0))), (q_76, .inl (cyI, 12, .inl (fun _ => 0)))] H := hP
  have hD : va_D A [(q_1, .inr (10, [.ref q_3, .ref q_4, .ref q_5, .ref q_6, .ref q_7])), (q_3, .inr (5, [.ref q_8, .ref q_9, .ref q_10, .ref q_11, .ref q_12, .ref q_13, .ref q_14, .int 0, .int 0, .int 0])), (q_8, .inl (cyI, 12, .inl (fun _ => 0))), (q_9, .inl (cyI, 12, .inl (fun _ => 0))), (q_10, .inl (cyI, 12, .inl (fun _ => 0))), (q_11, .inl (cyI, 12, .inl (fun _ => 0))), (q_4, .inr (0, [.ref q_3, .ref q_15, .int 0])), (q_5, .inr (8, [.ref q_3, .ref q_16, .ref q_17, .ref q_18, .ref q_19, .ref q_20, .ref q_21, .int 0])), (q_6, .inr (7, [.ref q_22, .ref q_23, .ref q_24, .int 0, .int 0, .int 0, .int 0, .int 0, .ref q_3, .ref q_25, .ref q_26, .ref q_27, .int 0])), (q_22, .inl (cyI, 64, .inl (fun _ => 0))), (q_7, .inr (6, [.ref q_28, .ref q_29, .ref q_30, .int 0, .int 0, .int 0, .int 0, .int 0, .ref q_19, .ref q_31, .ref q_32, .ref q_33, .int 0])), (q_28, .inl (cyI, 64, .inl (fun _ => 0))), (q_33, .inl (cyI, 6, .inl (fun _ => 0))), (q_34, .inr (11, [.int 0, .int 0, .ref q_36, .ref q_37, .ref q_38, .ref q_39, .int 0, .ref q_40, .ref q_41, .ref q_42, .int 0, .ref q_43, .int 0, .ref q_44, .ref q_45, .ref q_46, .ref q_47, .ref q_48, .ref q_49, .ref q_50, .ref q_51, .ref q_52, .int 0, .ref q_53, .ref q_54, .ref q_55, .ref q_56, .ref q_57, .ref q_58, .ref q_59, .int 0, .ref q_60, .ref q_61, .ref q_62, .int 0, .int 0, .ref q_63, .int 0, .ref q_64, .ref q_65, .ref q_66, .ref q_67, .ref q_68, .ref q_69, .ref q_70, .ref q_71, .ref q_72, .ref q_73, .ref q_74, .ref q_75, .ref q_76, .ref q_77])), (q_36, .inl (cyI, 12, .inl (fun _ => 0))), (q_37, .inl (cyI, 12, .inl (fun _ => 0))), (q_38, .inl (cyI, 12, .inl (fun _ => 0))), (q_39, .inl (cyI, 12, .inl (fun _ => 0))), (q_64, .inl (cyI, 128, .inl (fun _ => 0))), (q_65, .inl (cyI, 2, .inl (fun _ => 0))), (q_66, .inl (cyI, 2, .inl (fun _ => 0))), (q_67, .inl (cyI, 2, .inl (fun _ => 0))), (q_68, .inl (cyI, 2, .inl (fun _ => 0))), (q_69, .inl (cyI, 2, .inl (fun _ => 0))), (q_77, .inl (cyI, 2, .inl (fun _ => 0))), (q_76, .inl (cyI, 12, .inl (fun _ => 0)))] := hD
  refine W.widen (k := 102) (n := 32346) (by omega) (by omega) ?_
  refine lv_astore_n (lv' := [(2, .ref q_34), (1, .ref q_1), (0, .ref b)]) hx hb dL_law_15 rfl hl (by decide) rfl (fun ls hl => ?_)
  refine lv_iconst (v := 1) hx hb dL_law_16 (by decide) ?_
  refine va_newa (atype := .long) (ty := .long) (a0 := (1, .inr (.inl (fun _ => 0)))) (N' := 1) hx hb (hts (.arrayClass .long) (List.mem_of_getElem? (i := 1549) (by decide +kernel))) rfl hK hP hD hS hA (fun cA => rfl) (by decide) (by decide) (by decide) (by decide) (by decide) dL_law_17 (fun ou cyJ H hK hP hD hS => ?_)
  have hP : va_P (dC, dI) vwCl [(q_1, .inr (10, [.ref q_3, .ref q_4, .ref q_5, .ref q_6, .ref q_7])), (q_3, .inr (5, [.ref q_8, .ref q_9, .ref q_10, .ref q_11, .ref q_12, .ref q_13, .ref q_14, .int 0, .int 0, .int 0])), (q_8, .inl (cyI, 12, .inl (fun _ => 0))), (q_9, .inl (cyI, 12, .inl (fun _ => 0))), (q_10, .inl (cyI, 12, .inl (fun _ => 0))), (q_11, .inl (cyI, 12, .inl (fun _ => 0))), (q_4, .inr (0, [.ref q_3, .ref q_15, .int 0])), (q_5, .inr (8, [.ref q_3, .ref q_16, .ref q_17, .ref q_18, .ref q_19, .ref q_20, .ref q_21, .int 0])), (q_6, .inr (7, [.ref q_22, .ref q_23, .ref q_24, .int 0, .int 0, .int 0, .int 0, .int 0, .ref q_3, .ref q_25, .ref q_26, .ref q_27, .int 0])), (q_22, .inl (cyI, 64, .inl (fun _ => 0))), (q_7, .inr (6, [.ref q_28, .ref q_29, .ref q_30, .int 0, .int 0, .int 0, .int 0, .int 0, .ref q_19, .ref q_31, .ref q_32, .ref q_33, .int 0])), (q_28, .inl (cyI, 64, .inl (fun _ => 0))), (q_33, .inl (cyI, 6, .inl (fun _ => 0))), (q_34, .inr (11, [.int 0, .int 0, .ref q_36, .ref q_37, .ref q_38, .ref q_39, .int 0, .ref q_40, .ref q_41, .ref q_42, .int 0, .ref q_43, .int 0, .ref q_44, .ref q_45, .ref q_46, .ref q_47, .ref q_48, .ref q_49, .ref q_50, .ref q_51, .ref q_52, .int 0, .ref q_53, .ref q_54, .ref q_55, .ref q_56, .ref q_57, .ref q_58, .ref q_59, .int 0, .ref q_60, .ref q_61, .ref q_62, .int 0, .int 0, .ref q_63, .int 0, .ref q_64, .ref q_65, .ref q_66, .ref q_67, .ref q_68, .ref q_69, .ref q_70, .ref q_71, .ref q_72, .ref q_73, .ref q_74, .ref q_75, .ref q_76, .ref q_77])), (q_36, .inl (cyI, 12, .inl (fun _ => 0))), (q_37, .inl (cyI, 12, .inl (fun _ => 0))), (q_38, .inl (cyI, 12, .inl (fun _ => 0))), (q_39, .inl (cyI, 12, .inl (fun _ => 0))), (q_64, .inl (cyI, 128, .inl (fun _ => 0))), (q_65, .inl (cyI, 2, .inl (fun _ => 0))), (q_66, .inl (cyI, 2, .inl (fun _ => 0))), (q_67, .inl (cyI, 2, .inl (fun _ => 0))), (q_68, .inl (cyI, 2, .inl (fun _ => 0))), (q_69, .inl (cyI, 2, .inl (fun _ => 0))), (q_77, .inl (cyI, 2, .inl (fun _ => 0))), (q_76, .inl (cyI, 12, .inl (fun _ => 0))), (ou, .inl (cyJ, 1, .inr (.inl (fun _ => 0))))] H := hP
  have hD : va_D A [(q_1, .inr (10, [.ref q_3, .ref q_4, .ref q_5, .ref q_6, .ref q_7])), (q_3, .inr (5, [.ref q_8, .ref q_9, .ref q_10, .ref q_11, .ref q_12, .ref q_13, .ref q_14, .int 0, .int 0, .int 0])), (q_8, .inl (cyI, 12, .inl (fun _ => 0))), (q_9, .inl (cyI, 12, .inl (fun _ => 0))), (q_10, .inl (cyI, 12, .inl (fun _ => 0))), (q_11, .inl (cyI, 12, .inl (fun _ => 0))), (q_4, .inr (0, [.ref q_3, .ref q_15, .int 0])), (q_5, .inr (8, [.ref q_3, .ref q_16, .ref q_17, .ref q_18, .ref q_19, .ref q_20, .ref q_21, .int 0])), (q_6, .inr (7, [.ref q_22, .ref q_23, .ref q_24, .int 0, .int 0, .int 0, .int 0, .int 0, .ref q_3, .ref q_25, .ref q_26, .ref q_27, .int 0])), (q_22, .inl (cyI, 64, .inl (fun _ => 0))), (q_7, .inr (6, [.ref q_28, .ref q_29, .ref q_30, .int 0, .int 0, .int 0, .int 0, .int 0, .ref q_19, .ref q_31, .ref q_32, .ref q_33, .int 0])), (q_28, .inl (cyI, 64, .inl (fun _ => 0))), (q_33, .inl (cyI, 6, .inl (fun _ => 0))), (q_34, .inr (11, [.int 0, .int 0, .ref q_36, .ref q_37, .ref q_38, .ref q_39, .int 0, .ref q_40, .ref q_41, .ref q_42, .int 0, .ref q_43, .int 0, .ref q_44, .ref q_45, .ref q_46, .ref q_47, .ref q_48, .ref q_49, .ref q_50, .ref q_51, .ref q_52, .int 0, .ref q_53, .ref q_54, .ref q_55, .ref q_56, .ref q_57, .ref q_58, .ref q_59, .int 0, .ref q_60, .ref q_61, .ref q_62, .int 0, .int 0, .ref q_63, .int 0, .ref q_64, .ref q_65, .ref q_66, .ref q_67, .ref q_68, .ref q_69, .ref q_70, .ref q_71, .ref q_72, .ref q_73, .ref q_74, .ref q_75, .ref q_76, .ref q_77])), (q_36, .inl (cyI, 12, .inl (fun _ => 0))), (q_37, .inl (cyI, 12, .inl (fun _ => 0))), (q_38, .inl (cyI, 12, .inl (fun _ => 0))), (q_39, .inl (cyI, 12, .inl (fun _ => 0))), (q_64, .inl (cyI, 128, .inl (fun _ => 0))), (q_65, .inl (cyI, 2, .inl (fun _ => 0))), (q_66, .inl (cyI, 2, .inl (fun _ => 0))), (q_67, .inl (cyI, 2, .inl (fun _ => 0))), (q_68, .inl (cyI, 2, .inl (fun _ => 0))), (q_69, .inl (cyI, 2, .inl (fun _ => 0))), (q_77, .inl (cyI, 2, .inl (fun _ => 0))), (q_76, .inl (cyI, 12, .inl (fun _ => 0))), (ou, .inl (cyJ, 1, .inr (.inl (fun _ => 0))))] := hD
  refine W.widen (k := 103) (n := 32347) (by omega) (by omega) ?_
  have hK : va_K (dC, dI) vwCl [(cyI, .int), (cyJ, .long)] s := hK
  refine lv_astore_n (lv' := [(3, .ref ou), (2, .ref q_34), (1, .ref q_1), (0, .ref b)]) hx hb dL_law_19 rfl hl (by decide) rfl (fun ls hl => ?_)
  refine lv_iconst (v := 0) hx hb dL_law_20 (by decide) ?_
  refine lv_istore (lv' := [(4, .int 0), (3, .ref ou), (2, .ref q_34), (1, .ref q_1), (0, .ref b)]) hx hb dL_law_21 hl (by decide) rfl (fun ls hl => ?_)
  rcases (show L = 0 ∨ L = 1 ∨ L = 2 ∨ L = 3 ∨ L = 4 by omega) with rfl | rfl | rfl | rfl | rfl
  · refine lv_iload hx hb dL_law_23 (lv_at hl 0 rfl) ?_
    refine lv_aload_n hx hb dL_law_25 rfl (lv_at hl 4 rfl) ?_
    refine va_slen hx hb hX hbl hbA hS dL_law_26 ?_
    refine W.eq (g2 := F0 m 27 ls [.int 0, .int 0]) rfl ?_
    refine lv_iconst (v := 4) hx hb dL_law_27 (by decide) ?_
    refine lv_isub hx hb dL_law_28 ?_
    refine W.eq (g2 := F0 m 29 ls [.int (-4), .int 0]) (by first | rfl | exact congrArg (fun z => F0 m 29 ls (.int z :: _)) (by decide)) ?_
    refine lv_icmp_gt (tgt := 724) hx hb dL_law_29 (by decide) (fun _ => ?_) (fun h => absurd h (by decide))
    refine lv_iconst (v := 1) hx hb dL_law_724 (by decide) ?_
    refine va_forget (fun q hq => hAr _ (hS.2.2 q hq)) ?_
    refine W.widen (k := 600002) (n := 7302232) (by decide) (by decide) ?_
    exact lw_ret hx hb hr hlocks dL_law_725
  · refine lv_iload hx hb dL_law_23 (lv_at hl 0 rfl) ?_
    refine lv_aload_n hx hb dL_law_25 rfl (lv_at hl 4 rfl) ?_
    refine va_slen hx hb hX hbl hbA hS dL_law_26 ?_
    refine W.eq (g2 := F0 m 27 ls [.int 1, .int 0]) rfl ?_
    refine lv_iconst (v := 4) hx hb dL_law_27 (by decide) ?_
    refine lv_isub hx hb dL_law_28 ?_
    refine W.eq (g2 := F0 m 29 ls [.int (-3), .int 0]) (by first | rfl | exact congrArg (fun z => F0 m 29 ls (.int z :: _)) (by decide)) ?_
    refine lv_icmp_gt (tgt := 724) hx hb dL_law_29 (by decide) (fun _ => ?_) (fun h => absurd h (by decide))
    refine lv_iconst (v := 1) hx hb dL_law_724 (by decide) ?_
    refine va_forget (fun q hq => hAr _ (hS.2.2 q hq)) ?_
    refine W.widen (k := 600002) (n := 7302232) (by decide) (by decide) ?_
    exact lw_ret hx hb hr hlocks dL_law_725
  · refine lv_iload hx hb dL_law_23 (lv_at hl 0 rfl) ?_
    refine lv_aload_n hx hb dL_law_25 rfl (lv_at hl 4 rfl) ?_
    refine va_slen hx hb hX hbl hbA hS dL_law_26 ?_
    refine W.eq (g2 := F0 m 27 ls [.int 2, .int 0]) rfl ?_
    refine lv_iconst (v := 4) hx hb dL_law_27 (by decide) ?_
    refine lv_isub hx hb dL_law_28 ?_
    refine W.eq (g2 := F0 m 29 ls [.int (-2), .int 0]) (by first | rfl | exact congrArg (fun z => F0 m 29 ls (.int z :: _)) (by decide)) ?_
    refine lv_icmp_gt (tgt := 724) hx hb dL_law_29 (by decide) (fun _ => ?_) (fun h => absurd h (by decide))
    refine lv_iconst (v := 1) hx hb dL_law_724 (by decide) ?_
    refine va_forget (fun q hq => hAr _ (hS.2.2 q hq)) ?_
    refine W.widen (k := 600002) (n := 7302232) (by decide) (by decide) ?_
    exact lw_ret hx hb hr hlocks dL_law_725
  · refine lv_iload hx hb dL_law_23 (lv_at hl 0 rfl) ?_
    refine lv_aload_n hx hb dL_law_25 rfl (lv_at hl 4 rfl) ?_
    refine va_slen hx hb hX hbl hbA hS dL_law_26 ?_
    refine W.eq (g2 := F0 m 27 ls [.int 3, .int 0]) rfl ?_
    refine lv_iconst (v := 4) hx hb dL_law_27 (by decide) ?_
    refine lv_isub hx hb dL_law_28 ?_
    refine W.eq (g2 := F0 m 29 ls [.int (-1), .int 0]) (by first | rfl | exact congrArg (fun z => F0 m 29 ls (.int z :: _)) (by decide)) ?_
    refine lv_icmp_gt (tgt := 724) hx hb dL_law_29 (by decide) (fun _ => ?_) (fun h => absurd h (by decide))
    refine lv_iconst (v := 1) hx hb dL_law_724 (by decide) ?_
    refine va_forget (fun q hq => hAr _ (hS.2.2 q hq)) ?_
    refine W.widen (k := 600002) (n := 7302232) (by decide) (by decide) ?_
    exact lw_ret hx hb hr hlocks dL_law_725
  · refine lv_iload hx hb dL_law_23 (lv_at hl 0 rfl) ?_
    refine lv_aload_n hx hb dL_law_25 rfl (lv_at hl 4 rfl) ?_
    refine va_slen hx hb hX hbl hbA hS dL_law_26 ?_
    refine W.eq (g2 := F0 m 27 ls [.int 4, .int 0]) rfl ?_
    refine lv_iconst (v := 4) hx hb dL_law_27 (by decide) ?_
    refine lv_isub hx hb dL_law_28 ?_
    refine W.eq (g2 := F0 m 29 ls [.int 0, .int 0]) (by first | rfl | exact congrArg (fun z => F0 m 29 ls (.int z :: _)) (by decide)) ?_
    refine lv_icmp_gt (tgt := 724) hx hb dL_law_29 (by decide) (fun h => absurd h (by decide)) (fun _ => ?_)
    refine lv_aload_n hx hb dL_law_32 rfl (lv_at hl 4 rfl) ?_
    refine lv_iload hx hb dL_law_33 (lv_at hl 0 rfl) ?_
    refine va_sld hx hb hX hbl hbA hS (by unfold vp_in; decide) dL_law_35 ?_
    refine lv_bipush (v := 31) hx hb dL_law_36 (by decide) ?_
    refine lv_iand hx hb dL_law_38 ?_
    rcases pz_sw17 (xs (Int32.toNatClampNeg 0) &&& 31) with w | w | w | w | w | w | w | w | w | w | w | w | w | w | w | w | w | w | w
    · refine lv_tableIn (off := 85) (tgt := 124) hx hb dL_law_39 (by rw [w]; decide) (by rw [w]; decide) (by rw [w]; rfl) (by decide) ?_
      exact lwc_0 hst C0 hNW hZ hA hAr hbA hK hP hD hS hl
    · refine lv_tableIn (off := 122) (tgt := 161) hx hb dL_law_39 (by rw [w]; decide) (by rw [w]; decide) (by rw [w]; rfl) (by decide) ?_
      exact lwc_1 hst C0 hNW hZ hA hAr hbA hK hP hD hS hl
    · refine lv_tableIn (off := 159) (tgt := 198) hx hb dL_law_39 (by rw [w]; decide) (by rw [w]; decide) (by rw [w]; rfl) (by decide) ?_
      exact lwc_2 hst C0 hNW hZ hA hAr hbA hK hP hD hS hl
    · refine lv_tableIn (off := 172) (tgt := 211) hx hb dL_law_39 (by rw [w]; decide) (by rw [w]; decide) (by rw [w]; rfl) (by decide) ?_
      exact lwc_3 hst C0 hNW hZ hA hAr hbA hK hP hD hS hl
    · refine lv_tableIn (off := 209) (tgt := 248) hx hb dL_law_39 (by rw [w]; decide) (by rw [w]; decide) (by rw [w]; rfl) (by decide) ?_
      exact lwc_4 hst C0 hNW hZ hA hAr hbA hK hP hD hS hl
    · refine lv_tableIn (off := 220) (tgt := 259) hx hb dL_law_39 (by rw [w]; decide) (by rw [w]; decide) (by rw [w]; rfl) (by decide) ?_
      exact lwc_5 hst C0 hNW hZ hA hAr hbA hK hP hD hS hl
    · refine lv_tableIn (off := 245) (tgt := 284) hx hb dL_law_39 (by rw [w]; decide) (by rw [w]; decide) (by rw [w]; rfl) (by decide) ?_
      exact lwc_6 hst C0 hNW hZ hA hAr hbA hK hP hD hS hl
    · refine lv_tableIn (off := 325) (tgt := 364) hx hb dL_law_39 (by rw [w]; decide) (by rw [w]; decide) (by rw [w]; rfl) (by decide) ?_
      exact lwc_7 hst C0 hNW hZ hA hAr hbA hK hP hD hS hl
    · refine lv_tableIn (off := 350) (tgt := 389) hx hb dL_law_39 (by rw [w]; decide) (by rw [w]; decide) (by rw [w]; rfl) (by decide) ?_
      exact lwc_8 hst C0 hNW hZ hA hAr hbA hK hP hD hS hl
    · refine lv_tableIn (off := 399) (tgt := 438) hx hb dL_law_39 (by rw [w]; decide) (by rw [w]; decide) (by rw [w]; rfl) (by decide) ?_
      exact lwc_9 hst C0 hNW hZ hA hAr hbA hK hP hD hS hl
    · refine lv_tableIn (off := 424) (tgt := 463) hx hb dL_law_39 (by rw [w]; decide) (by rw [w]; decide) (by rw [w]; rfl) (by decide) ?_
      exact lwc_10 hst C0 hNW hZ hA hAr hbA hK hP hD hS hl
    · refine lv_tableIn (off := 449) (tgt := 488) hx hb dL_law_39 (by rw [w]; decide) (by rw [w]; decide) (by rw [w]; rfl) (by decide) ?_
      exact lwc_11 hst C0 hNW hZ hA hAr hbA hK hP hD hS hl
    · refine lv_tableIn (off := 486) (tgt := 525) hx hb dL_law_39 (by rw [w]; decide) (by rw [w]; decide) (by rw [w]; rfl) (by decide) ?_
      exact lwc_12 hst C0 hNW hZ hA hAr hbA hK hP hD hS hl
    · refine lv_tableIn (off := 499) (tgt := 538) hx hb dL_law_39 (by rw [w]; decide) (by rw [w]; decide) (by rw [w]; rfl) (by decide) ?_
      exact lwc_13 hst C0 hNW hZ hA hAr hbA hK hP hD hS hl
    · refine lv_tableIn (off := 524) (tgt := 563) hx hb dL_law_39 (by rw [w]; decide) (by rw [w]; decide) (by rw [w]; rfl) (by decide) ?_
      exact lwc_14 hst C0 hNW hZ hA hAr hbA hK hP hD hS hl
    · refine lv_tableIn (off := 549) (tgt := 588) hx hb dL_law_39 (by rw [w]; decide) (by rw [w]; decide) (by rw [w]; rfl) (by decide) ?_
      exact lwc_15 hst C0 hNW hZ hA hAr hbA hK hP hD hS hl
    · refine lv_tableIn (off := 586) (tgt := 625) hx hb dL_law_39 (by rw [w]; decide) (by rw [w]; decide) (by rw [w]; rfl) (by decide) ?_
      exact lwc_16 hst C0 hNW hZ hA hAr hbA hK hP hD hS hl
    · refine lv_tableIn (off := 654) (tgt := 693) hx hb dL_law_39 (by rw [w]; decide) (by rw [w]; decide) (by rw [w]; rfl) (by decide) ?_
      exact lwc_17 hst C0 hNW hZ hA hAr hbA hK hP hD hS hl
    · refine lv_tableOut (tgt := 718) hx hb dL_law_39 w.1 (by decide) ?_
      exact lwc_end C0 hAr hbA hS (by decide) (by decide) (lv_sub hl [0, 4] rfl)
theorem lw_traces {l : Launch} (hf : l.flags = flags0) : l.stackTraces = false := by
  unfold Launch.stackTraces
  rw [hf]
  decide
-- ===== YOUR PART ENDS =====
set_option maxHeartbeats 4000000 in
theorem lw_walk (l : Launch) (hst : l.stackTraces = false) (b : Addr) (xs : List Int32) : MetFree l x (headSpec (Jvm.Cond.code x code maxLocals ret :: tables_1) room_1) (lw_P b xs) (fun _ _ _ _ _ => True) lw_Q := by
  refine MetFree.of_bodyS (code := code) (maxLocals := maxLocals) (ret := ret) (by decide) ?_ ?_
  · intro args s m h hn
    obtain ⟨meth, c, h1, h2, h3, h4, h5, h6, -, -⟩ := Cond.code_spec hn (atoms_spec (ws := Jvm.Cond.code x code maxLocals ret :: tables_1) h _ List.mem_cons_self)
    exact ⟨meth, c, h1, h2, h3, h4, h5, h6⟩
  · intro p e s m args below meth c s₁ B hml0 hP _
    obtain ⟨rfl, hx, hbd, hgv⟩ := hP
    obtain ⟨scr, harrAt, hlist, hof, hsmall⟩ := hx
    obtain ⟨hcb, hkn, -, -⟩ := State.arrayAt?_spec harrAt
    have hown : s.vm.findClass R_law = some m.cls := findClass_of_methodNamed B.named
    have hts0 : ∀ c ∈ (Jvm.Cond.code x code maxLocals ret :: tables_1), c.before #[Value.ref b] s = true := atoms_spec (ws := Jvm.Cond.code x code maxLocals ret :: tables_1) B.pre
    have hts : ∀ w ∈ lw_tbl, w.before #[Value.ref b] s = true := k2_hts_sels lw_privs (fun w hw => hts0 w (List.mem_cons_of_mem _ hw)) lw_privs_ok
    have hml : c.maxLocals = 7 := B.maxLocals_eq (hts0 _ List.mem_cons_self)
    have X₀ : Stand p l e room_1 s m #[Value.ref b] below meth c s₁ [] 0 0 := Stand.of_body B
    have hh0 : s₁.heap = s.heap := by rw [B.state]; rfl
    have hsz : scr.slots.size = xs.length := by rw [← Array.length_toList, hlist, List.length_map]
    have hval : ∀ j : Nat, j < xs.length → scr.slots[j]? = some (.int (xs.getD j 0)) := fun j hj => by
      rw [← Array.getElem?_toList, hlist]
      simp [hj]
    have hbl : b < s.heap.size := (Array.getElem?_eq_some_iff.mp hcb).1
    have hX : va_X b xs.length (fun j => xs.getD j 0) s s.heap := ⟨scr, hcb, hof, hkn, hsz, hval⟩
    have K : W p l e room_1 s m #[Value.ref b] below meth c s₁.heap [] 0 0 (lw_Z below #[Value.ref b] s) (entryFrame m ([Value.ref b] : List Value).toArray 7) := by
      rw [hh0]
      exact whole_start l hst hbd ⟨B.exec, B.bytes, B.returns, hml, hown, hts, hX, hbl, B.notSynchronized, hgv⟩
    obtain ⟨t, a1, o, b1, b2, b3⟩ := K s₁ rfl X₀
    exact ⟨t, o, a1, b1, b2, b3⟩
theorem lw_pre_spec {args : Array Value} {s : State} (h : (Jvm.Cond.and given_1 narrow_1).before args s = true) (hr : rest_1_c.before args s = true) : ∃ (b : Addr) (xs : List Int32), lw_P b xs args s := by
  have hs := flat_of_before _ h
  have hq := flat_of_before _ hr
  have hc : (Cond.count 1).before args s = true := hs _ (by decide +kernel)
  have harr : (Cond.arrayOf (.arg 0) .int).before args s = true := hs _ (by decide +kernel)
  have hle : (Cond.le (.length (.arg 0)) (.int 4)).before args s = true := hs _ (by decide +kernel)
  have hlen : (Cond.isInt (.length (.arg 0))).before args s = true := hq _ (by decide +kernel)
  have hall : (Cond.all (.arg 0) (.isInt (.elem (.arg 0) (.index 0)))).before args s = true := hq _ (by decide +kernel)
  obtain ⟨b, xs, hb, hx⟩ := State.ints_of_pre rfl harr hlen hall
  have hsm : xs.length < 2 ^ 31 := hx.choose_spec.2.2.2
  have hev : (Term.length (.arg 0)).eval args s none [] s = some (.int xs.length.toInt32) := hx.length_eval hb
  have hv := Cond.le_ints hev (show (Term.int 4).eval args s none [] s = some (.int 4) from rfl)
  have hd : xs.length.toInt32 ≤ 4 := by
    simpa [Cond.before, Cond.holds, hv] using hle
  have hN : xs.length ≤ 4 := (Int32.ofNat_le_ofNat hsm (by decide)).mp (show Int32.ofNat xs.length ≤ Int32.ofNat 4 from hd)
  exact ⟨b, xs, Cond.one_arg hc (show args[0]? = some (.ref b) from hb), hx, hN, h⟩
theorem lw_comes (l : Launch) (hst : l.stackTraces = false) : Comes l x (Jvm.Cond.code x code maxLocals ret :: tables_1) room_1 (fun tb e args s => Calls_1 tb e args s ∧ rest_1 tb e args s ∧ Pre_1 tb e args s)
    (fun _ _ args s o t => lw_Q args s o t) := by
  intro p e ha hc hk s m args below hf hfit hheap happ hpre
  obtain ⟨b, xs, hP⟩ := lw_pre_spec hpre.2.2 hpre.2.1
  obtain ⟨k, o, h1, h2, h3, hQ⟩ := lw_walk l hst b xs p e ha hc hk s m args below hf ((Spec.applies_iff_loose hf).mp happ).1 hP trivial
  exact ⟨k, o, h1, h2, h3, hQ⟩
theorem lw_frame {s t : State} {o : Outcome} {args : Array Value} (h : Framed s o t [] 600002 7302232) :
    Framed s o t (fieldLocs frame_1_writes args s ++ arrayLocs frame_1_arrays args s ++ staticLocs frame_1_statics s) 600002 7302232 := h
theorem lw_limb (L : Cond) (hL : ∀ (args : Array Value) (s t : State), L.after args s (.returned (some (.int 1))) t = true) :
    ArmFor flags0 classFile x code maxLocals ret World_1 tables_1 room_1 Calls_1 rest_1 Pre_1
      (fun tb e a s o t => postC L tb e a s o t ∧ Framed s o t (fieldLocs frame_1_writes a s ++ arrayLocs frame_1_arrays a s ++ staticLocs frame_1_statics s) 600002 7302232) := by
  intro l hfl _ _ p e ha hc hk s m args below hf hfit hheap happ hpre
  obtain ⟨k, o, h1, h2, h3, rfl, hF⟩   := lw_comes l (lw_traces hfl) p e ha hc hk s m args below hf hfit hheap happ hpre
  exact ⟨k, _, h1, h2, h3, hL args s _, lw_frame hF⟩
theorem i_vc : Claimed_1_1 ∧ Claimed_1_2 := ⟨lw_limb limb_1_1 (fun args s t => by simp [limb_1_1, Cond.after, Cond.holds, Cond.value]), lw_limb limb_1_2 (fun args s t => Cond.after_iff.mpr (by
  first | (rw [show limb_1_2 = Cond.eq .result (.int 1) from rfl, Cond.eq_ints (x := 1) (y := 1) rfl rfl]; simp; done) | (simp [limb_1_2, Cond.value, Term.eval]; done)))⟩
