theorem and15_r (a : Int) : 0 ≤ andI a 15 ∧ andI a 15 < 16 := by
  have e : andI a 15 = (((iI a).toBitVec &&& (15 : BitVec 32)).toNat : Int) := by
    show ((iI a).toBitVec &&& (15 : BitVec 32)).toInt = _
    rw [BitVec.toInt_eq_toNat_of_lt]
    rw [BitVec.toNat_and]
    have := Nat.and_le_right (n := (iI a).toBitVec.toNat) (m := (15 : BitVec 32).toNat)
    have h2 : (15 : BitVec 32).toNat = 15 := rfl
    omega
  rw [e, BitVec.toNat_and]
  have := Nat.and_le_right (n := (iI a).toBitVec.toNat) (m := (15 : BitVec 32).toNat)
  have h2 : (15 : BitVec 32).toNat = 15 := rfl
  omega
set_option maxHeartbeats 4000000 in
set_option maxRecDepth 100000 in
theorem lk_next {p : Program} {l : Launch} {e : Env} {s : State} {m : MethodId} {args : Array Value} {below : List Frame} {meth : Method} {c : Code} {Q : State → Prop} {A : Nat → Prop} {dC : Nat → ClassId} {dI : Nat → Nat → Nat} {kA : Nat → ClassId} {b L : Nat} {xs : Nat → Int32} (hC : LCx p l s m args c A dC dI kA b L xs) {i : Int} (KK : LK p l e s m args below meth c Q A dC dI kA b (i + 6) (i + 6) 23) : LK p l e s m args below meth c Q A dC dI kA b i (i + 6) 916 := by
  intro qo qa qbc qll qfc qfp ub ul uf hd iba icn ifp ien ibs iie ife ya yn ysc ycc ysi yft yfp ydn ga gb gc kz gk gs ge b0 n0 ys yr yj cl g wo wl wb we wn wk wz lt sb se wo2 wl2 wb2 we2 wn2 wk2 wz2 lt2 sb2 se2 jm jr jy rc mt wo3 wl3 wb3 we3 wn3 wk3 wz3 lt3 sb3 se3 wo4 wl4 wb4 we4 wn4 wk4 wz4 lt4 sb4 se4 xo xa xci xzi xsi xni xki lxi bxi exi hxi wl5 wb5 we5 wn5 wk5 wz5 lt5 sb5 se5 mo ma mrf mtx mwd mak mli mlx mat mtk mtf mtt mfa mla mlp mdp msi mpf mpt mdn ca cle cfr ctf ctt cwf cwt caf cat clf clt cva cpe wss oa oo cells slots hbc hub hll hul hca hln hfc huf hrw hfe hfp hle hSR hHD hKR hyj hW hW2 hw1 hw2 hW3 hW4 hws hW5 hw5 hLX hlx hML hMW hpe hcel hslo H locs hP hD hS hSh ls hl
  obtain ⟨⟨hx, hb, hml, hown, hts⟩, -⟩ := hC
  refine lv_iinc (v := iI (i + 6)) (lv' := [(4, .int (iI (i + 6))), (0, .ref b), (1, .ref qo), (2, .ref mo), (3, .ref oa)]) hx hb d_Z_law_916 hl (k := 4) rfl (iI_add _ _) (by decide) rfl (fun ls hl => ?_)
  refine lv_goto (tgt := 23) hx hb d_Z_law_919 (by decide) ?_
  exact KK qo qa qbc qll qfc qfp ub ul uf hd iba icn ifp ien ibs iie ife ya yn ysc ycc ysi yft yfp ydn ga gb gc kz gk gs ge b0 n0 ys yr yj cl g wo wl wb we wn wk wz lt sb se wo2 wl2 wb2 we2 wn2 wk2 wz2 lt2 sb2 se2 jm jr jy rc mt wo3 wl3 wb3 we3 wn3 wk3 wz3 lt3 sb3 se3 wo4 wl4 wb4 we4 wn4 wk4 wz4 lt4 sb4 se4 xo xa xci xzi xsi xni xki lxi bxi exi hxi wl5 wb5 we5 wn5 wk5 wz5 lt5 sb5 se5 mo ma mrf mtx mwd mak mli mlx mat mtk mtf mtt mfa mla mlp mdp msi mpf mpt mdn ca cle cfr ctf ctt cwf cwt caf cat clf clt cva cpe wss oa oo cells slots hbc hub hll hul hca hln hfc huf hrw hfe hfp hle hSR hHD hKR hyj hW hW2 hw1 hw2 hW3 hW4 hws hW5 hw5 hLX hlx hML hMW hpe hcel hslo H locs hP hD hS hSh ls (lv_sub hl [1, 2, 3, 4, 0] rfl)
set_option maxHeartbeats 4000000 in
set_option maxRecDepth 100000 in
theorem lk_turn {p : Program} {l : Launch} {e : Env} {s : State} {m : MethodId} {args : Array Value} {below : List Frame} {meth : Method} {c : Code} {Q : State → Prop} {A : Nat → Prop} {dC : Nat → ClassId} {dI : Nat → Nat → Nat} {kA : Nat → ClassId} {b L : Nat} {xs : Nat → Int32} (hC : LCx p l s m args c A dC dI kA b L xs) (fin : ∀ (H : Heap) (locs : List Loc) (cells slots : Nat) (ls : Array Slot), va_S A s.heap H locs → cells ≤ 601024 → slots ≤ 7293034 → W p l e room_1 s m args below meth c H locs cells slots Q (F0 m 922 ls [])) {i : Int} (h0 : 0 ≤ i) (hiL : i ≤ L) (KK : i + 6 ≤ L → LK p l e s m args below meth c Q A dC dI kA b (i + 6) (i + 6) 23) : LK p l e s m args below meth c Q A dC dI kA b i i 23 := by
  intro qo qa qbc qll qfc qfp ub ul uf hd iba icn ifp ien ibs iie ife ya yn ysc ycc ysi yft yfp ydn ga gb gc kz gk gs ge b0 n0 ys yr yj cl g wo wl wb we wn wk wz lt sb se wo2 wl2 wb2 we2 wn2 wk2 wz2 lt2 sb2 se2 jm jr jy rc mt wo3 wl3 wb3 we3 wn3 wk3 wz3 lt3 sb3 se3 wo4 wl4 wb4 we4 wn4 wk4 wz4 lt4 sb4 se4 xo xa xci xzi xsi xni xki lxi bxi exi hxi wl5 wb5 we5 wn5 wk5 wz5 lt5 sb5 se5 mo ma mrf mtx mwd mak mli mlx mat mtk mtf mtt mfa mla mlp mdp msi mpf mpt mdn ca cle cfr ctf ctt cwf cwt caf cat clf clt cva cpe wss oa oo cells slots hbc hub hll hul hca hln hfc huf hrw hfe hfp hle hSR hHD hKR hyj hW hW2 hw1 hw2 hW3 hW4 hws hW5 hw5 hLX hlx hML hMW hpe hcel hslo H locs hP hD hS hSh ls hl
  have hC9 := hC
  obtain ⟨⟨hx, hb, hml, hown, hts⟩, hK, hN, hG, hA, hAN, hX, hbl, hbA, hL3, hlT, hT⟩ := hC
  have hq0 := (hLX 0 (by omega)).2.1
  have hq1 := (hLX 1 (by omega)).2.1
  have hq2 := (hLX 2 (by omega)).2.1
  have hq3 := (hLX 3 (by omega)).2.1
  have hq4 := (hLX 4 (by omega)).2.1
  have hq5 := (hLX 5 (by omega)).2.1
  refine lv_iload hx hb d_Z_law_23 (lv_at hl 4 rfl) ?_
  refine lv_aload_n hx hb d_Z_law_25 rfl (lv_at hl 0 rfl) ?_
  refine va_slen hx hb hX hbl hbA hS d_Z_law_26 ?_
  have eL : Int32.ofNat L = iI (L : Int) := (iI_nI L).symm
  refine W.eq (g2 := F0 m 27 ls [.int (iI (L : Int)), .int (iI i)]) (by rw [eL]) ?_
  refine lv_bipush (v := iI 6) hx hb d_Z_law_27 (by decide) ?_
  refine li_isub hx hb d_Z_law_29 ?_
  refine li_icmp_gt (tgt := 922) hx hb d_Z_law_30 (by decide) (by omega) (by omega) (fun c1 => ?_) (fun c1 => ?_)
  · exact fin H locs cells slots ls hS (by omega) (by omega)
  · have hi : 0 ≤ i ∧ i + 6 ≤ L := ⟨h0, by omega⟩
    have KN := lk_next hC9 (KK hi.2)
    obtain ⟨v0, hv0, rg_v0⟩ := scv (xs i.toNat)
    have hr := and15_r v0
    refine lv_aload_n hx hb d_Z_law_33 rfl (lv_at hl 0 rfl) ?_
    refine lv_iload hx hb d_Z_law_34 (lv_at hl 4 rfl) ?_
    refine li_sld (v := v0) hx hb hX hbl hbA hS h0 (by omega) hL3 hv0 d_Z_law_36 ?_
    refine lv_bipush (v := iI 15) hx hb d_Z_law_37 (by decide) ?_
    refine li_iandI hx hb d_Z_law_39 ?_
    by_cases w0 : andI v0 15 = 0
    · refine li_to (z := 0) w0 ?_
      refine lv_tableIn (x := iI 0) (off := 76) (tgt := 116) hx hb d_Z_law_40 (by decide) (by decide) (by decide) (by decide) ?_
      exact lk_feed hC9 hi KN qo qa qbc qll qfc qfp ub ul uf hd iba icn ifp ien ibs iie ife ya yn ysc ycc ysi yft yfp ydn ga gb gc kz gk gs ge b0 n0 ys yr yj cl g wo wl wb we wn wk wz lt sb se wo2 wl2 wb2 we2 wn2 wk2 wz2 lt2 sb2 se2 jm jr jy rc mt wo3 wl3 wb3 we3 wn3 wk3 wz3 lt3 sb3 se3 wo4 wl4 wb4 we4 wn4 wk4 wz4 lt4 sb4 se4 xo xa xci xzi xsi xni xki lxi bxi exi hxi wl5 wb5 we5 wn5 wk5 wz5 lt5 sb5 se5 mo ma mrf mtx mwd mak mli mlx mat mtk mtf mtt mfa mla mlp mdp msi mpf mpt mdn ca cle cfr ctf ctt cwf cwt caf cat clf clt cva cpe wss oa oo cells slots hbc hub hll hul hca hln hfc huf hrw hfe hfp hle hSR hHD hKR hyj hW hW2 hw1 hw2 hW3 hW4 hws hW5 hw5 hLX hlx hML hMW hpe hcel hslo H locs hP hD hS hSh ls hl
    by_cases w1 : andI v0 15 = 1
    · refine li_to (z := 1) w1 ?_
      refine lv_tableIn (x := iI 1) (off := 180) (tgt := 220) hx hb d_Z_law_40 (by decide) (by decide) (by decide) (by decide) ?_
      exact lk_cut hC9 hi KN qo qa qbc qll qfc qfp ub ul uf hd iba icn ifp ien ibs iie ife ya yn ysc ycc ysi yft yfp ydn ga gb gc kz gk gs ge b0 n0 ys yr yj cl g wo wl wb we wn wk wz lt sb se wo2 wl2 wb2 we2 wn2 wk2 wz2 lt2 sb2 se2 jm jr jy rc mt wo3 wl3 wb3 we3 wn3 wk3 wz3 lt3 sb3 se3 wo4 wl4 wb4 we4 wn4 wk4 wz4 lt4 sb4 se4 xo xa xci xzi xsi xni xki lxi bxi exi hxi wl5 wb5 we5 wn5 wk5 wz5 lt5 sb5 se5 mo ma mrf mtx mwd mak mli mlx mat mtk mtf mtt mfa mla mlp mdp msi mpf mpt mdn ca cle cfr ctf ctt cwf cwt caf cat clf clt cva cpe wss oa oo cells slots hbc hub hll hul hca hln hfc huf hrw hfe hfp hle hSR hHD hKR hyj hW hW2 hw1 hw2 hW3 hW4 hws hW5 hw5 hLX hlx hML hMW hpe hcel hslo H locs hP hD hS hSh ls hl
    by_cases w2 : andI v0 15 = 2
    · refine li_to (z := 2) w2 ?_
      refine lv_tableIn (x := iI 2) (off := 236) (tgt := 276) hx hb d_Z_law_40 (by decide) (by decide) (by decide) (by decide) ?_
      exact lk_load hC9 hi KN qo qa qbc qll qfc qfp ub ul uf hd iba icn ifp ien ibs iie ife ya yn ysc ycc ysi yft yfp ydn ga gb gc kz gk gs ge b0 n0 ys yr yj cl g wo wl wb we wn wk wz lt sb se wo2 wl2 wb2 we2 wn2 wk2 wz2 lt2 sb2 se2 jm jr jy rc mt wo3 wl3 wb3 we3 wn3 wk3 wz3 lt3 sb3 se3 wo4 wl4 wb4 we4 wn4 wk4 wz4 lt4 sb4 se4 xo xa xci xzi xsi xni xki lxi bxi exi hxi wl5 wb5 we5 wn5 wk5 wz5 lt5 sb5 se5 mo ma mrf mtx mwd mak mli mlx mat mtk mtf mtt mfa mla mlp mdp msi mpf mpt mdn ca cle cfr ctf ctt cwf cwt caf cat clf clt cva cpe wss oa oo cells slots hbc hub hll hul hca hln hfc huf hrw hfe hfp hle hSR hHD hKR hyj hW hW2 hw1 hw2 hW3 hW4 hws hW5 hw5 hLX hlx hML hMW hpe hcel hslo H locs hP hD hS hSh ls hl
    by_cases w3 : andI v0 15 = 3
    · refine li_to (z := 3) w3 ?_
      refine lv_tableIn (x := iI 3) (off := 249) (tgt := 289) hx hb d_Z_law_40 (by decide) (by decide) (by decide) (by decide) ?_
      exact lk_drop hC9 hi KN qo qa qbc qll qfc qfp ub ul uf hd iba icn ifp ien ibs iie ife ya yn ysc ycc ysi yft yfp ydn ga gb gc kz gk gs ge b0 n0 ys yr yj cl g wo wl wb we wn wk wz lt sb se wo2 wl2 wb2 we2 wn2 wk2 wz2 lt2 sb2 se2 jm jr jy rc mt wo3 wl3 wb3 we3 wn3 wk3 wz3 lt3 sb3 se3 wo4 wl4 wb4 we4 wn4 wk4 wz4 lt4 sb4 se4 xo xa xci xzi xsi xni xki lxi bxi exi hxi wl5 wb5 we5 wn5 wk5 wz5 lt5 sb5 se5 mo ma mrf mtx mwd mak mli mlx mat mtk mtf mtt mfa mla mlp mdp msi mpf mpt mdn ca cle cfr ctf ctt cwf cwt caf cat clf clt cva cpe wss oa oo cells slots hbc hub hll hul hca hln hfc huf hrw hfe hfp hle hSR hHD hKR hyj hW hW2 hw1 hw2 hW3 hW4 hws hW5 hw5 hLX hlx hML hMW hpe hcel hslo H locs hP hD hS hSh ls hl
    by_cases w4 : andI v0 15 = 4
    · refine li_to (z := 4) w4 ?_
      refine lv_tableIn (x := iI 4) (off := 312) (tgt := 352) hx hb d_Z_law_40 (by decide) (by decide) (by decide) (by decide) ?_
      exact lk_type hC9 hi KN qo qa qbc qll qfc qfp ub ul uf hd iba icn ifp ien ibs iie ife ya yn ysc ycc ysi yft yfp ydn ga gb gc kz gk gs ge b0 n0 ys yr yj cl g wo wl wb we wn wk wz lt sb se wo2 wl2 wb2 we2 wn2 wk2 wz2 lt2 sb2 se2 jm jr jy rc mt wo3 wl3 wb3 we3 wn3 wk3 wz3 lt3 sb3 se3 wo4 wl4 wb4 we4 wn4 wk4 wz4 lt4 sb4 se4 xo xa xci xzi xsi xni xki lxi bxi exi hxi wl5 wb5 we5 wn5 wk5 wz5 lt5 sb5 se5 mo ma mrf mtx mwd mak mli mlx mat mtk mtf mtt mfa mla mlp mdp msi mpf mpt mdn ca cle cfr ctf ctt cwf cwt caf cat clf clt cva cpe wss oa oo cells slots hbc hub hll hul hca hln hfc huf hrw hfe hfp hle hSR hHD hKR hyj hW hW2 hw1 hw2 hW3 hW4 hws hW5 hw5 hLX hlx hML hMW hpe hcel hslo H locs hP hD hS hSh ls hl
    by_cases w5 : andI v0 15 = 5
    · refine li_to (z := 5) w5 ?_
      refine lv_tableIn (x := iI 5) (off := 416) (tgt := 456) hx hb d_Z_law_40 (by decide) (by decide) (by decide) (by decide) ?_
      exact lk_erase hC9 hi KN qo qa qbc qll qfc qfp ub ul uf hd iba icn ifp ien ibs iie ife ya yn ysc ycc ysi yft yfp ydn ga gb gc kz gk gs ge b0 n0 ys yr yj cl g wo wl wb we wn wk wz lt sb se wo2 wl2 wb2 we2 wn2 wk2 wz2 lt2 sb2 se2 jm jr jy rc mt wo3 wl3 wb3 we3 wn3 wk3 wz3 lt3 sb3 se3 wo4 wl4 wb4 we4 wn4 wk4 wz4 lt4 sb4 se4 xo xa xci xzi xsi xni xki lxi bxi exi hxi wl5 wb5 we5 wn5 wk5 wz5 lt5 sb5 se5 mo ma mrf mtx mwd mak mli mlx mat mtk mtf mtt mfa mla mlp mdp msi mpf mpt mdn ca cle cfr ctf ctt cwf cwt caf cat clf clt cva cpe wss oa oo cells slots hbc hub hll hul hca hln hfc huf hrw hfe hfp hle hSR hHD hKR hyj hW hW2 hw1 hw2 hW3 hW4 hws hW5 hw5 hLX hlx hML hMW hpe hcel hslo H locs hP hD hS hSh ls hl
    by_cases w6 : andI v0 15 = 6
    · refine li_to (z := 6) w6 ?_
      refine lv_tableIn (x := iI 6) (off := 429) (tgt := 469) hx hb d_Z_law_40 (by decide) (by decide) (by decide) (by decide) ?_
      exact lk_search hC9 hi KN qo qa qbc qll qfc qfp ub ul uf hd iba icn ifp ien ibs iie ife ya yn ysc ycc ysi yft yfp ydn ga gb gc kz gk gs ge b0 n0 ys yr yj cl g wo wl wb we wn wk wz lt sb se wo2 wl2 wb2 we2 wn2 wk2 wz2 lt2 sb2 se2 jm jr jy rc mt wo3 wl3 wb3 we3 wn3 wk3 wz3 lt3 sb3 se3 wo4 wl4 wb4 we4 wn4 wk4 wz4 lt4 sb4 se4 xo xa xci xzi xsi xni xki lxi bxi exi hxi wl5 wb5 we5 wn5 wk5 wz5 lt5 sb5 se5 mo ma mrf mtx mwd mak mli mlx mat mtk mtf mtt mfa mla mlp mdp msi mpf mpt mdn ca cle cfr ctf ctt cwf cwt caf cat clf clt cva cpe wss oa oo cells slots hbc hub hll hul hca hln hfc huf hrw hfe hfp hle hSR hHD hKR hyj hW hW2 hw1 hw2 hW3 hW4 hws hW5 hw5 hLX hlx hML hMW hpe hcel hslo H locs hP hD hS hSh ls hl
    by_cases w7 : andI v0 15 = 7
    · refine li_to (z := 7) w7 ?_
      refine lv_tableIn (x := iI 7) (off := 442) (tgt := 482) hx hb d_Z_law_40 (by decide) (by decide) (by decide) (by decide) ?_
      exact lk_place hC9 hi KN qo qa qbc qll qfc qfp ub ul uf hd iba icn ifp ien ibs iie ife ya yn ysc ycc ysi yft yfp ydn ga gb gc kz gk gs ge b0 n0 ys yr yj cl g wo wl wb we wn wk wz lt sb se wo2 wl2 wb2 we2 wn2 wk2 wz2 lt2 sb2 se2 jm jr jy rc mt wo3 wl3 wb3 we3 wn3 wk3 wz3 lt3 sb3 se3 wo4 wl4 wb4 we4 wn4 wk4 wz4 lt4 sb4 se4 xo xa xci xzi xsi xni xki lxi bxi exi hxi wl5 wb5 we5 wn5 wk5 wz5 lt5 sb5 se5 mo ma mrf mtx mwd mak mli mlx mat mtk mtf mtt mfa mla mlp mdp msi mpf mpt mdn ca cle cfr ctf ctt cwf cwt caf cat clf clt cva cpe wss oa oo cells slots hbc hub hll hul hca hln hfc huf hrw hfe hfp hle hSR hHD hKR hyj hW hW2 hw1 hw2 hW3 hW4 hws hW5 hw5 hLX hlx hML hMW hpe hcel hslo H locs hP hD hS hSh ls hl
    by_cases w8 : andI v0 15 = 8
    · refine li_to (z := 8) w8 ?_
      refine lv_tableIn (x := iI 8) (off := 455) (tgt := 495) hx hb d_Z_law_40 (by decide) (by decide) (by decide) (by decide) ?_
      exact lk_found hC9 hi KN qo qa qbc qll qfc qfp ub ul uf hd iba icn ifp ien ibs iie ife ya yn ysc ycc ysi yft yfp ydn ga gb gc kz gk gs ge b0 n0 ys yr yj cl g wo wl wb we wn wk wz lt sb se wo2 wl2 wb2 we2 wn2 wk2 wz2 lt2 sb2 se2 jm jr jy rc mt wo3 wl3 wb3 we3 wn3 wk3 wz3 lt3 sb3 se3 wo4 wl4 wb4 we4 wn4 wk4 wz4 lt4 sb4 se4 xo xa xci xzi xsi xni xki lxi bxi exi hxi wl5 wb5 we5 wn5 wk5 wz5 lt5 sb5 se5 mo ma mrf mtx mwd mak mli mlx mat mtk mtf mtt mfa mla mlp mdp msi mpf mpt mdn ca cle cfr ctf ctt cwf cwt caf cat clf clt cva cpe wss oa oo cells slots hbc hub hll hul hca hln hfc huf hrw hfe hfp hle hSR hHD hKR hyj hW hW2 hw1 hw2 hW3 hW4 hws hW5 hw5 hLX hlx hML hMW hpe hcel hslo H locs hP hD hS hSh ls hl
    by_cases w9 : andI v0 15 = 9
    · refine li_to (z := 9) w9 ?_
      refine lv_tableIn (x := iI 9) (off := 480) (tgt := 520) hx hb d_Z_law_40 (by decide) (by decide) (by decide) (by decide) ?_
      exact lk_record hC9 hi KN qo qa qbc qll qfc qfp ub ul uf hd iba icn ifp ien ibs iie ife ya yn ysc ycc ysi yft yfp ydn ga gb gc kz gk gs ge b0 n0 ys yr yj cl g wo wl wb we wn wk wz lt sb se wo2 wl2 wb2 we2 wn2 wk2 wz2 lt2 sb2 se2 jm jr jy rc mt wo3 wl3 wb3 we3 wn3 wk3 wz3 lt3 sb3 se3 wo4 wl4 wb4 we4 wn4 wk4 wz4 lt4 sb4 se4 xo xa xci xzi xsi xni xki lxi bxi exi hxi wl5 wb5 we5 wn5 wk5 wz5 lt5 sb5 se5 mo ma mrf mtx mwd mak mli mlx mat mtk mtf mtt mfa mla mlp mdp msi mpf mpt mdn ca cle cfr ctf ctt cwf cwt caf cat clf clt cva cpe wss oa oo cells slots hbc hub hll hul hca hln hfc huf hrw hfe hfp hle hSR hHD hKR hyj hW hW2 hw1 hw2 hW3 hW4 hws hW5 hw5 hLX hlx hML hMW hpe hcel hslo H locs hP hD hS hSh ls hl
    by_cases w10 : andI v0 15 = 10
    · refine li_to (z := 10) w10 ?_
      refine lv_tableIn (x := iI 10) (off := 548) (tgt := 588) hx hb d_Z_law_40 (by decide) (by decide) (by decide) (by decide) ?_
      exact lk_octet hC9 hi KN qo qa qbc qll qfc qfp ub ul uf hd iba icn ifp ien ibs iie ife ya yn ysc ycc ysi yft yfp ydn ga gb gc kz gk gs ge b0 n0 ys yr yj cl g wo wl wb we wn wk wz lt sb se wo2 wl2 wb2 we2 wn2 wk2 wz2 lt2 sb2 se2 jm jr jy rc mt wo3 wl3 wb3 we3 wn3 wk3 wz3 lt3 sb3 se3 wo4 wl4 wb4 we4 wn4 wk4 wz4 lt4 sb4 se4 xo xa xci xzi xsi xni xki lxi bxi exi hxi wl5 wb5 we5 wn5 wk5 wz5 lt5 sb5 se5 mo ma mrf mtx mwd mak mli mlx mat mtk mtf mtt mfa mla mlp mdp msi mpf mpt mdn ca cle cfr ctf ctt cwf cwt caf cat clf clt cva cpe wss oa oo cells slots hbc hub hll hul hca hln hfc huf hrw hfe hfp hle hSR hHD hKR hyj hW hW2 hw1 hw2 hW3 hW4 hws hW5 hw5 hLX hlx hML hMW hpe hcel hslo H locs hP hD hS hSh ls hl
    by_cases w11 : andI v0 15 = 11
    · refine li_to (z := 11) w11 ?_
      refine lv_tableIn (x := iI 11) (off := 616) (tgt := 656) hx hb d_Z_law_40 (by decide) (by decide) (by decide) (by decide) ?_
      exact lk_words hC9 hi KN qo qa qbc qll qfc qfp ub ul uf hd iba icn ifp ien ibs iie ife ya yn ysc ycc ysi yft yfp ydn ga gb gc kz gk gs ge b0 n0 ys yr yj cl g wo wl wb we wn wk wz lt sb se wo2 wl2 wb2 we2 wn2 wk2 wz2 lt2 sb2 se2 jm jr jy rc mt wo3 wl3 wb3 we3 wn3 wk3 wz3 lt3 sb3 se3 wo4 wl4 wb4 we4 wn4 wk4 wz4 lt4 sb4 se4 xo xa xci xzi xsi xni xki lxi bxi exi hxi wl5 wb5 we5 wn5 wk5 wz5 lt5 sb5 se5 mo ma mrf mtx mwd mak mli mlx mat mtk mtf mtt mfa mla mlp mdp msi mpf mpt mdn ca cle cfr ctf ctt cwf cwt caf cat clf clt cva cpe wss oa oo cells slots hbc hub hll hul hca hln hfc huf hrw hfe hfp hle hSR hHD hKR hyj hW hW2 hw1 hw2 hW3 hW4 hws hW5 hw5 hLX hlx hML hMW hpe hcel hslo H locs hP hD hS hSh ls hl
    by_cases w12 : andI v0 15 = 12
    · refine li_to (z := 12) w12 ?_
      refine lv_tableIn (x := iI 12) (off := 672) (tgt := 712) hx hb d_Z_law_40 (by decide) (by decide) (by decide) (by decide) ?_
      exact lk_word hC9 hi KN qo qa qbc qll qfc qfp ub ul uf hd iba icn ifp ien ibs iie ife ya yn ysc ycc ysi yft yfp ydn ga gb gc kz gk gs ge b0 n0 ys yr yj cl g wo wl wb we wn wk wz lt sb se wo2 wl2 wb2 we2 wn2 wk2 wz2 lt2 sb2 se2 jm jr jy rc mt wo3 wl3 wb3 we3 wn3 wk3 wz3 lt3 sb3 se3 wo4 wl4 wb4 we4 wn4 wk4 wz4 lt4 sb4 se4 xo xa xci xzi xsi xni xki lxi bxi exi hxi wl5 wb5 we5 wn5 wk5 wz5 lt5 sb5 se5 mo ma mrf mtx mwd mak mli mlx mat mtk mtf mtt mfa mla mlp mdp msi mpf mpt mdn ca cle cfr ctf ctt cwf cwt caf cat clf clt cva cpe wss oa oo cells slots hbc hub hll hul hca hln hfc huf hrw hfe hfp hle hSR hHD hKR hyj hW hW2 hw1 hw2 hW3 hW4 hws hW5 hw5 hLX hlx hML hMW hpe hcel hslo H locs hP hD hS hSh ls hl
    by_cases w13 : andI v0 15 = 13
    · refine li_to (z := 13) w13 ?_
      refine lv_tableIn (x := iI 13) (off := 752) (tgt := 792) hx hb d_Z_law_40 (by decide) (by decide) (by decide) (by decide) ?_
      exact lk_hits hC9 hi KN qo qa qbc qll qfc qfp ub ul uf hd iba icn ifp ien ibs iie ife ya yn ysc ycc ysi yft yfp ydn ga gb gc kz gk gs ge b0 n0 ys yr yj cl g wo wl wb we wn wk wz lt sb se wo2 wl2 wb2 we2 wn2 wk2 wz2 lt2 sb2 se2 jm jr jy rc mt wo3 wl3 wb3 we3 wn3 wk3 wz3 lt3 sb3 se3 wo4 wl4 wb4 we4 wn4 wk4 wz4 lt4 sb4 se4 xo xa xci xzi xsi xni xki lxi bxi exi hxi wl5 wb5 we5 wn5 wk5 wz5 lt5 sb5 se5 mo ma mrf mtx mwd mak mli mlx mat mtk mtf mtt mfa mla mlp mdp msi mpf mpt mdn ca cle cfr ctf ctt cwf cwt caf cat clf clt cva cpe wss oa oo cells slots hbc hub hll hul hca hln hfc huf hrw hfe hfp hle hSR hHD hKR hyj hW hW2 hw1 hw2 hW3 hW4 hws hW5 hw5 hLX hlx hML hMW hpe hcel hslo H locs hP hD hS hSh ls hl
    by_cases w14 : andI v0 15 = 14
    · refine li_to (z := 14) w14 ?_
      refine lv_tableIn (x := iI 14) (off := 820) (tgt := 860) hx hb d_Z_law_40 (by decide) (by decide) (by decide) (by decide) ?_
      exact lk_below hC9 hi KN qo qa qbc qll qfc qfp ub ul uf hd iba icn ifp ien ibs iie ife ya yn ysc ycc ysi yft yfp ydn ga gb gc kz gk gs ge b0 n0 ys yr yj cl g wo wl wb we wn wk wz lt sb se wo2 wl2 wb2 we2 wn2 wk2 wz2 lt2 sb2 se2 jm jr jy rc mt wo3 wl3 wb3 we3 wn3 wk3 wz3 lt3 sb3 se3 wo4 wl4 wb4 we4 wn4 wk4 wz4 lt4 sb4 se4 xo xa xci xzi xsi xni xki lxi bxi exi hxi wl5 wb5 we5 wn5 wk5 wz5 lt5 sb5 se5 mo ma mrf mtx mwd mak mli mlx mat mtk mtf mtt mfa mla mlp mdp msi mpf mpt mdn ca cle cfr ctf ctt cwf cwt caf cat clf clt cva cpe wss oa oo cells slots hbc hub hll hul hca hln hfc huf hrw hfe hfp hle hSR hHD hKR hyj hW hW2 hw1 hw2 hW3 hW4 hws hW5 hw5 hLX hlx hML hMW hpe hcel hslo H locs hP hD hS hSh ls hl
    refine lv_tableOut (tgt := 916) hx hb d_Z_law_40 (by rw [iI_toInt (by omega)]; omega) (by decide) ?_
    exact KN qo qa qbc qll qfc qfp ub ul uf hd iba icn ifp ien ibs iie ife ya yn ysc ycc ysi yft yfp ydn ga gb gc kz gk gs ge b0 n0 ys yr yj cl g wo wl wb we wn wk wz lt sb se wo2 wl2 wb2 we2 wn2 wk2 wz2 lt2 sb2 se2 jm jr jy rc mt wo3 wl3 wb3 we3 wn3 wk3 wz3 lt3 sb3 se3 wo4 wl4 wb4 we4 wn4 wk4 wz4 lt4 sb4 se4 xo xa xci xzi xsi xni xki lxi bxi exi hxi wl5 wb5 we5 wn5 wk5 wz5 lt5 sb5 se5 mo ma mrf mtx mwd mak mli mlx mat mtk mtf mtt mfa mla mlp mdp msi mpf mpt mdn ca cle cfr ctf ctt cwf cwt caf cat clf clt cva cpe wss oa oo cells slots hbc hub hll hul hca hln hfc huf hrw hfe hfp hle hSR hHD hKR hyj hW hW2 hw1 hw2 hW3 hW4 hws hW5 hw5 hLX hlx hML hMW hpe (by omega) (by omega) H locs hP hD hS hSh ls hl
set_option maxHeartbeats 4000000 in
set_option maxRecDepth 100000 in
theorem lk_loop {p : Program} {l : Launch} {e : Env} {s : State} {m : MethodId} {args : Array Value} {below : List Frame} {meth : Method} {c : Code} {Q : State → Prop} {A : Nat → Prop} {dC : Nat → ClassId} {dI : Nat → Nat → Nat} {kA : Nat → ClassId} {b L : Nat} {xs : Nat → Int32} (hC : LCx p l s m args c A dC dI kA b L xs) (fin : ∀ (H : Heap) (locs : List Loc) (cells slots : Nat) (ls : Array Slot), va_S A s.heap H locs → cells ≤ 601024 → slots ≤ 7293034 → W p l e room_1 s m args below meth c H locs cells slots Q (F0 m 922 ls [])) : ∀ (n : Nat) (i : Int), 0 ≤ i → i ≤ L → (L : Int) - i < n → LK p l e s m args below meth c Q A dC dI kA b i i 23 := by
  intro n
  induction n with
  | zero => intro i h0 h1 h2; omega
  | succ n ih =>
    intro i h0 h1 h2
    exact lk_turn hC fin h0 h1 (fun h => ih (i + 6) (by omega) h (by omega))
