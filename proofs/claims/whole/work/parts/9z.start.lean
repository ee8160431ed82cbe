def tmS (i : Nat) : Term := Term.string (STRS.getD i ("", 0, "")).1 (STRS.getD i ("", 0, "")).2.1
def NWf : List Cond := flatC (Jvm.Cond.and given_1 narrow_1)
theorem nw_ex : ∀ i, i < 22 → NWf[([35, 63, 71, 79, 89, 103, 122, 135, 149, 164, 182, 201, 222, 245, 266, 286, 324, 378, 426, 468, 535, 577] : List Nat).getD i 0]? = some (Cond.exactly (tmS i) "java/lang/String") := by decide +kernel
theorem nw_co : ∀ i, i < 22 → NWf[([36, 64, 72, 80, 90, 104, 123, 136, 150, 165, 183, 202, 223, 246, 267, 287, 325, 379, 427, 469, 536, 578] : List Nat).getD i 0]? = some (Cond.eq (.field (tmS i) "java/lang/String" "coder" "B") (.int 0)) := by decide +kernel
theorem nw_ar : ∀ i, i < 22 → NWf[([37, 65, 73, 81, 91, 105, 124, 137, 151, 166, 184, 203, 224, 247, 268, 288, 326, 380, 428, 470, 537, 579] : List Nat).getD i 0]? = some (Cond.arrayOf (.field (tmS i) "java/lang/String" "value" "[B") .byte) := by decide +kernel
theorem nw_le : ∀ i, i < 22 → NWf[([38, 66, 74, 82, 92, 106, 125, 138, 152, 167, 185, 204, 225, 248, 269, 289, 327, 381, 429, 471, 538, 580] : List Nat).getD i 0]? = some (Cond.eq (.length (.field (tmS i) "java/lang/String" "value" "[B")) (.int (Int32.ofNat (lenS.getD i 0)))) := by decide +kernel
theorem nw_el : ∀ i, i < 22 → ∀ j, j < lenS.getD i 0 → NWf[(([[39, 40, 41, 42, 43, 44, 45, 46, 47, 48, 49, 50, 51, 52, 53, 54, 55, 56, 57, 58, 59, 60, 61, 62], [67, 68, 69], [75, 76], [83, 84, 85], [93, 94, 95, 96, 97, 98], [107, 108, 109, 110, 111, 112, 113, 114, 115, 116], [126, 127, 128], [139, 140, 141], [153, 154, 155], [168, 169, 170, 171, 172], [186, 187, 188, 189, 190], [205, 206, 207, 208, 209, 210], [226, 227, 228, 229, 230, 231, 232], [249, 250, 251, 252], [270, 271], [290, 291, 292, 293, 294, 295, 296, 297, 298, 299, 300, 301, 302, 303, 304, 305, 306, 307, 308], [328, 329, 330, 331, 332, 333, 334, 335, 336, 337, 338, 339, 340, 341, 342, 343, 344, 345, 346, 347, 348, 349, 350, 351, 352, 353, 354, 355, 356, 357, 358, 359, 360, 361], [382, 383, 384, 385, 386, 387, 388, 389, 390, 391, 392, 393, 394, 395, 396, 397, 398, 399, 400, 401, 402, 403, 404, 405, 406, 407, 408], [430, 431, 432, 433, 434, 435, 436, 437, 438, 439, 440, 441, 442, 443, 444, 445, 446, 447, 448, 449], [472, 473, 474, 475, 476, 477, 478, 479, 480, 481, 482, 483, 484, 485, 486, 487, 488, 489, 490, 491, 492, 493, 494, 495, 496, 497, 498, 499, 500, 501, 502, 503, 504, 505, 506, 507, 508, 509, 510, 511, 512, 513, 514, 515], [539, 540, 541, 542, 543, 544, 545, 546, 547, 548, 549, 550, 551, 552, 553, 554, 555, 556], [581, 582, 583, 584, 585, 586, 587, 588, 589, 590, 591, 592, 593, 594, 595, 596, 597, 598, 599]] : List (List Nat)).getD i []).getD j 0]? = some (Cond.eq (.elem (.field (tmS i) "java/lang/String" "value" "[B") (.int (Int32.ofNat j))) (.int ((bytS.getD i []).getD j 0))) := by decide +kernel
theorem nw_ne : ∀ i, i < 22 → ∀ j, j < 22 → i ≠ j → (NWf[(([[0, 70, 77, 86, 99, 117, 129, 142, 156, 173, 191, 211, 233, 253, 272, 309, 362, 409, 450, 516, 557, 600], [70, 0, 78, 87, 100, 118, 130, 143, 157, 174, 192, 212, 234, 254, 273, 310, 363, 410, 451, 517, 558, 601], [77, 78, 0, 88, 101, 119, 131, 144, 158, 175, 193, 213, 235, 255, 274, 311, 364, 411, 452, 518, 559, 602], [86, 87, 88, 0, 102, 120, 132, 145, 159, 176, 194, 214, 236, 256, 275, 312, 365, 412, 453, 519, 560, 603], [99, 100, 101, 102, 0, 121, 133, 146, 160, 177, 195, 215, 237, 257, 276, 313, 366, 413, 454, 520, 561, 604], [117, 118, 119, 120, 121, 0, 134, 147, 161, 178, 196, 216, 238, 258, 277, 314, 367, 414, 455, 521, 562, 605], [129, 130, 131, 132, 133, 134, 0, 148, 162, 179, 197, 217, 239, 259, 278, 315, 368, 415, 456, 522, 563, 606], [142, 143, 144, 145, 146, 147, 148, 0, 163, 180, 198, 218, 240, 260, 279, 316, 369, 416, 457, 523, 564, 607], [156, 157, 158, 159, 160, 161, 162, 163, 0, 181, 199, 219, 241, 261, 280, 317, 370, 417, 458, 524, 565, 608], [173, 174, 175, 176, 177, 178, 179, 180, 181, 0, 200, 220, 242, 262, 281, 318, 371, 418, 459, 525, 566, 609], [191, 192, 193, 194, 195, 196, 197, 198, 199, 200, 0, 221, 243, 263, 282, 319, 372, 419, 460, 526, 567, 610], [211, 212, 213, 214, 215, 216, 217, 218, 219, 220, 221, 0, 244, 264, 283, 320, 373, 420, 461, 527, 568, 611], [233, 234, 235, 236, 237, 238, 239, 240, 241, 242, 243, 244, 0, 265, 284, 321, 374, 421, 462, 528, 569, 612], [253, 254, 255, 256, 257, 258, 259, 260, 261, 262, 263, 264, 265, 0, 285, 322, 375, 422, 463, 529, 570, 613], [272, 273, 274, 275, 276, 277, 278, 279, 280, 281, 282, 283, 284, 285, 0, 323, 376, 423, 464, 530, 571, 614], [309, 310, 311, 312, 313, 314, 315, 316, 317, 318, 319, 320, 321, 322, 323, 0, 377, 424, 465, 531, 572, 615], [362, 363, 364, 365, 366, 367, 368, 369, 370, 371, 372, 373, 374, 375, 376, 377, 0, 425, 466, 532, 573, 616], [409, 410, 411, 412, 413, 414, 415, 416, 417, 418, 419, 420, 421, 422, 423, 424, 425, 0, 467, 533, 574, 617], [450, 451, 452, 453, 454, 455, 456, 457, 458, 459, 460, 461, 462, 463, 464, 465, 466, 467, 0, 534, 575, 618], [516, 517, 518, 519, 520, 521, 522, 523, 524, 525, 526, 527, 528, 529, 530, 531, 532, 533, 534, 0, 576, 619], [557, 558, 559, 560, 561, 562, 563, 564, 565, 566, 567, 568, 569, 570, 571, 572, 573, 574, 575, 576, 0, 620], [600, 601, 602, 603, 604, 605, 606, 607, 608, 609, 610, 611, 612, 613, 614, 615, 616, 617, 618, 619, 620, 0]] : List (List Nat)).getD i []).getD j 0]? = some (Cond.not (Cond.eq (tmS i) (tmS j))) ∨ NWf[(([[0, 70, 77, 86, 99, 117, 129, 142, 156, 173, 191, 211, 233, 253, 272, 309, 362, 409, 450, 516, 557, 600], [70, 0, 78, 87, 100, 118, 130, 143, 157, 174, 192, 212, 234, 254, 273, 310, 363, 410, 451, 517, 558, 601], [77, 78, 0, 88, 101, 119, 131, 144, 158, 175, 193, 213, 235, 255, 274, 311, 364, 411, 452, 518, 559, 602], [86, 87, 88, 0, 102, 120, 132, 145, 159, 176, 194, 214, 236, 256, 275, 312, 365, 412, 453, 519, 560, 603], [99, 100, 101, 102, 0, 121, 133, 146, 160, 177, 195, 215, 237, 257, 276, 313, 366, 413, 454, 520, 561, 604], [117, 118, 119, 120, 121, 0, 134, 147, 161, 178, 196, 216, 238, 258, 277, 314, 367, 414, 455, 521, 562, 605], [129, 130, 131, 132, 133, 134, 0, 148, 162, 179, 197, 217, 239, 259, 278, 315, 368, 415, 456, 522, 563, 606], [142, 143, 144, 145, 146, 147, 148, 0, 163, 180, 198, 218, 240, 260, 279, 316, 369, 416, 457, 523, 564, 607], [156, 157, 158, 159, 160, 161, 162, 163, 0, 181, 199, 219, 241, 261, 280, 317, 370, 417, 458, 524, 565, 608], [173, 174, 175, 176, 177, 178, 179, 180, 181, 0, 200, 220, 242, 262, 281, 318, 371, 418, 459, 525, 566, 609], [191, 192, 193, 194, 195, 196, 197, 198, 199, 200, 0, 221, 243, 263, 282, 319, 372, 419, 460, 526, 567, 610], [211, 212, 213, 214, 215, 216, 217, 218, 219, 220, 221, 0, 244, 264, 283, 320, 373, 420, 461, 527, 568, 611], [233, 234, 235, 236, 237, 238, 239, 240, 241, 242, 243, 244, 0, 265, 284, 321, 374, 421, 462, 528, 569, 612], [253, 254, 255, 256, 257, 258, 259, 260, 261, 262, 263, 264, 265, 0, 285, 322, 375, 422, 463, 529, 570, 613], [272, 273, 274, 275, 276, 277, 278, 279, 280, 281, 282, 283, 284, 285, 0, 323, 376, 423, 464, 530, 571, 614], [309, 310, 311, 312, 313, 314, 315, 316, 317, 318, 319, 320, 321, 322, 323, 0, 377, 424, 465, 531, 572, 615], [362, 363, 364, 365, 366, 367, 368, 369, 370, 371, 372, 373, 374, 375, 376, 377, 0, 425, 466, 532, 573, 616], [409, 410, 411, 412, 413, 414, 415, 416, 417, 418, 419, 420, 421, 422, 423, 424, 425, 0, 467, 533, 574, 617], [450, 451, 452, 453, 454, 455, 456, 457, 458, 459, 460, 461, 462, 463, 464, 465, 466, 467, 0, 534, 575, 618], [516, 517, 518, 519, 520, 521, 522, 523, 524, 525, 526, 527, 528, 529, 530, 531, 532, 533, 534, 0, 576, 619], [557, 558, 559, 560, 561, 562, 563, 564, 565, 566, 567, 568, 569, 570, 571, 572, 573, 574, 575, 576, 0, 620], [600, 601, 602, 603, 604, 605, 606, 607, 608, 609, 610, 611, 612, 613, 614, 615, 616, 617, 618, 619, 620, 0]] : List (List Nat)).getD i []).getD j 0]? = some (Cond.not (Cond.eq (tmS j) (tmS i)))) := by decide +kernel
theorem lenS_s : ∀ i, i < 22 → lenS.getD i 0 < 2 ^ 31 := by decide +kernel
theorem ar_prim {args : Array Value} {s : State} {ty : FieldType} (h : (Cond.arrayClass ty).before args s = true) (hp : ∀ C, ty ≠ .object C) : ∃ cA : ClassId, ArrOfT s cA ty ∧ va_RA s cA ty := by
  obtain ⟨c, k, comp, h1, h2, h3⟩ := Cond.arrayClass_spec (args := args) (first := s) (o := none) (s := s) (idx := []) h
  refine ⟨c, fun n z => ⟨(fun k h => by cases h), k, h2, comp, h3⟩, ?_⟩
  cases ty <;> first | exact h1 | exact absurd rfl (hp _)
theorem ar_obj {args : Array Value} {s : State} {C : String} (h : (Cond.arrayOver (.object C)).before args s = true) : ∃ cA : ClassId, ArrOfT s cA (.object C) ∧ va_RA s cA (.object C) := by
  obtain ⟨comp, c, k, h1, -, h2, h3, h4⟩ := Cond.arrayOver_spec (args := args) (first := s) (o := none) (s := s) (idx := []) h
  exact ⟨c, fun n z => ⟨(fun k h => by cases h), k, h2, comp, h3⟩, k, comp, h2, h3, h1, h4⟩
set_option maxHeartbeats 4000000 in
set_option maxRecDepth 100000 in
theorem st_all {s : State} {b : Nat} (hts : ∀ w ∈ lw_tbl, w.before #[Value.ref b] s = true) (hgv : (Jvm.Cond.and given_1 narrow_1).before #[Value.ref b] s = true) : ∃ (dC : Nat → ClassId) (dI : Nat → Nat → Nat) (kA : Nat → ClassId), va_K (dC, dI) CL (TY kA) s ∧ NW s ∧ GW dI s ∧ LSW dI s ∧ dI 100 0 = s.heap.size := by
  have hs := flat_of_before _ hgv
  have hT1 : ∀ w ∈ TB, w.before #[Value.ref b] s = true := TB_lw hts
  have hA : ∀ a : Nat, a < s.heap.size → ¬ (fun q : Nat => s.heap.size ≤ q) a := fun a ha => Nat.not_le.mpr ha
  have hm : ∀ (i : Nat) (w : Cond), NWf[i]? = some w → w.before #[Value.ref b] s = true := fun i w h => hs w (List.mem_of_getElem? h)
  obtain ⟨adK, adV, hV, hE⟩ := vk_Sof (args := #[Value.ref b]) (s := s) (N := 22) (tm := tmS) (len := lenS) (byt := bytS) (A := fun q : Nat => s.heap.size ≤ q) lenS_s (fun i hi => hm _ _ (nw_ex i hi)) (fun i hi => hm _ _ (nw_co i hi)) (fun i hi => hm _ _ (nw_ar i hi)) (fun i hi => hm _ _ (nw_le i hi)) (fun i hi j hj => hm _ _ (nw_el i hi j hj)) (fun i j hi hj hij => (nw_ne i hi j hj hij).imp (fun h => hm _ _ h) (fun h => hm _ _ h)) hA
  obtain ⟨c0, iS0, hKn0⟩ := u_known (C := R_Q) (T := F_Q) (N := 14) (n := 14) hT1 i_Q (hT1 _ im_Q)
  obtain ⟨c1, iS1, hKn1⟩ := u_known (C := R_C) (T := F_C) (N := 5) (n := 5) hT1 i_C (hT1 _ im_C)
  obtain ⟨c2, iS2, hKn2⟩ := u_known (C := R_H) (T := F_H) (N := 7) (n := 7) hT1 i_H (hT1 _ im_H)
  obtain ⟨c3, iS3, hKn3⟩ := u_known (C := R_I) (T := F_I) (N := 7) (n := 7) hT1 i_I (hT1 _ im_I)
  obtain ⟨c4, iS4, hKn4⟩ := u_known (C := R_J) (T := F_J) (N := 5) (n := 5) hT1 i_J (hT1 _ im_J)
  obtain ⟨c5, iS5, hKn5⟩ := u_known (C := R_L) (T := F_L) (N := 7) (n := 7) hT1 i_L (hT1 _ im_L)
  obtain ⟨c6, iS6, hKn6⟩ := u_known (C := R_Y) (T := F_Y) (N := 12) (n := 12) hT1 i_Y (hT1 _ im_Y)
  obtain ⟨c7, iS7, hKn7⟩ := u_known (C := R_S) (T := F_S) (N := 2) (n := 2) hT1 i_S (hT1 _ im_S)
  obtain ⟨c8, iS8, hKn8⟩ := u_known (C := R_K) (T := F_K) (N := 6) (n := 6) hT1 i_K (hT1 _ im_K)
  obtain ⟨c9, iS9, hKn9⟩ := u_known (C := R_W) (T := F_W) (N := 4) (n := 4) hT1 i_W (hT1 _ im_W)
  obtain ⟨c10, iS10, hKn10⟩ := u_known (C := R_M) (T := F_M) (N := 36) (n := 36) hT1 i_M (hT1 _ im_M)
  obtain ⟨k0, hk0⟩ := ar_prim (ty := .int) (hts _ (List.mem_append_right _ (tm1 68 rfl))) (fun C => by simp)
  obtain ⟨k1, hk1⟩ := ar_prim (ty := .char) (hts _ (List.mem_append_right _ (tm1 67 rfl))) (fun C => by simp)
  obtain ⟨k2, hk2⟩ := ar_prim (ty := .boolean) (hts _ (List.mem_append_right _ (tm1 224 rfl))) (fun C => by simp)
  obtain ⟨k3, hk3⟩ := ar_prim (ty := .long) (hts _ (List.mem_append_right _ (tm7 24 rfl))) (fun C => by simp)
  have ha4 : (Cond.arrayOver (.object "CatalogQuery$Holding")).before #[Value.ref b] s = true := hts _ (List.mem_append_right _ (tm1 34 rfl))
  obtain ⟨k4, hk4⟩ := ar_obj ha4
  have ha5 : (Cond.arrayOver (.object "CatalogQuery$Lexicon")).before #[Value.ref b] s = true := hts _ (List.mem_append_right _ (tm2 1 rfl))
  obtain ⟨k5, hk5⟩ := ar_obj ha5
  have ha6 : (Cond.arrayOver (.object "CatalogQuery$Clause")).before #[Value.ref b] s = true := hts _ (List.mem_append_right _ (tm1 102 rfl))
  obtain ⟨k6, hk6⟩ := ar_obj ha6
  refine ⟨fun k => if k = 0 then c0 else if k = 1 then c1 else if k = 2 then c2 else if k = 3 then c3 else if k = 4 then c4 else if k = 5 then c5 else if k = 6 then c6 else if k = 7 then c7 else if k = 8 then c8 else if k = 9 then c9 else c10, fun k => if k = 0 then iS0 else if k = 1 then iS1 else if k = 2 then iS2 else if k = 3 then iS3 else if k = 4 then iS4 else if k = 5 then iS5 else if k = 6 then iS6 else if k = 7 then iS7 else if k = 8 then iS8 else if k = 9 then iS9 else if k = 10 then iS10 else if k = 100 then (fun _ => s.heap.size) else if k = 101 then adK else adV, fun k => if k = 0 then k0 else if k = 1 then k1 else if k = 2 then k2 else if k = 3 then k3 else if k = 4 then k4 else if k = 5 then k5 else k6, ⟨?_, ?_⟩, NW.of (fun w h => hts w (List.mem_append_right _ h)), ?_, ?_, rfl⟩
  · intro k q hq
    match k, hq with
    | 0, hq => cases hq; exact hKn0
    | 1, hq => cases hq; exact hKn1
    | 2, hq => cases hq; exact hKn2
    | 3, hq => cases hq; exact hKn3
    | 4, hq => cases hq; exact hKn4
    | 5, hq => cases hq; exact hKn5
    | 6, hq => cases hq; exact hKn6
    | 7, hq => cases hq; exact hKn7
    | 8, hq => cases hq; exact hKn8
    | 9, hq => cases hq; exact hKn9
    | 10, hq => cases hq; exact hKn10
    | k + 11, hq => simp [CL] at hq
  · intro k q hq
    match k, hq with
    | 0, hq => cases hq; exact hk0
    | 1, hq => cases hq; exact hk1
    | 2, hq => cases hq; exact hk2
    | 3, hq => cases hq; exact hk3
    | 4, hq => cases hq; exact hk4
    | 5, hq => cases hq; exact hk5
    | 6, hq => cases hq; exact hk6
    | k + 7, hq => simp [TY] at hq
  · refine ⟨Nat.le_refl _, ?_, hV, ?_, ?_, ?_, ?_, ?_, ?_, ?_, ?_, ?_, ?_⟩
    · intro i q hq
      match i, hq with
      | 0, hq => cases hq; exact vk_R.of (A := #[Value.ref b]) (hts _ (List.mem_append_right _ (tm2 104 rfl))) (hE 0 (by omega))
      | 1, hq => cases hq; exact vk_R.of (A := #[Value.ref b]) (hts _ (List.mem_append_right _ (tm3 91 rfl))) (hE 1 (by omega))
      | 2, hq => cases hq; exact vk_R.of (A := #[Value.ref b]) (hts _ (List.mem_append_right _ (tm3 101 rfl))) (hE 2 (by omega))
      | 3, hq => cases hq; exact vk_R.of (A := #[Value.ref b]) (hts _ (List.mem_append_right _ (tm3 102 rfl))) (hE 3 (by omega))
      | 4, hq => cases hq; exact vk_R.of (A := #[Value.ref b]) (hts _ (List.mem_append_right _ (tm3 103 rfl))) (hE 4 (by omega))
      | 5, hq => cases hq; exact vk_R.of (A := #[Value.ref b]) (hts _ (List.mem_append_right _ (tm3 104 rfl))) (hE 5 (by omega))
      | 6, hq => cases hq; exact vk_R.of (A := #[Value.ref b]) (hts _ (List.mem_append_right _ (tm3 141 rfl))) (hE 6 (by omega))
      | 7, hq => cases hq; exact vk_R.of (A := #[Value.ref b]) (hts _ (List.mem_append_right _ (tm3 142 rfl))) (hE 7 (by omega))
      | 8, hq => cases hq; exact vk_R.of (A := #[Value.ref b]) (hts _ (List.mem_append_right _ (tm3 143 rfl))) (hE 8 (by omega))
      | 9, hq => cases hq; exact vk_R.of (A := #[Value.ref b]) (hts _ (List.mem_append_right _ (tm3 144 rfl))) (hE 9 (by omega))
      | 10, hq => cases hq; exact vk_R.of (A := #[Value.ref b]) (hts _ (List.mem_append_right _ (tm3 162 rfl))) (hE 10 (by omega))
      | 11, hq => cases hq; exact vk_R.of (A := #[Value.ref b]) (hts _ (List.mem_append_right _ (tm3 163 rfl))) (hE 11 (by omega))
      | 12, hq => cases hq; exact vk_R.of (A := #[Value.ref b]) (hts _ (List.mem_append_right _ (tm3 164 rfl))) (hE 12 (by omega))
      | 13, hq => cases hq; exact vk_R.of (A := #[Value.ref b]) (hts _ (List.mem_append_right _ (tm3 165 rfl))) (hE 13 (by omega))
      | 14, hq => cases hq; exact vk_R.of (A := #[Value.ref b]) (hts _ (List.mem_append_right _ (tm3 166 rfl))) (hE 14 (by omega))
      | 15, hq => cases hq; exact vk_R.of (A := #[Value.ref b]) (hts _ (List.mem_append_right _ (tm4 129 rfl))) (hE 15 (by omega))
      | 16, hq => cases hq; exact vk_R.of (A := #[Value.ref b]) (hts _ (List.mem_append_right _ (tm4 164 rfl))) (hE 16 (by omega))
      | 17, hq => cases hq; exact vk_R.of (A := #[Value.ref b]) (hts _ (List.mem_append_right _ (tm4 185 rfl))) (hE 17 (by omega))
      | 18, hq => cases hq; exact vk_R.of (A := #[Value.ref b]) (hts _ (List.mem_append_right _ (tm4 196 rfl))) (hE 18 (by omega))
      | 19, hq => cases hq; exact vk_R.of (A := #[Value.ref b]) (hts _ (List.mem_append_right _ (tm4 211 rfl))) (hE 19 (by omega))
      | 20, hq => cases hq; exact vk_R.of (A := #[Value.ref b]) (hts _ (List.mem_append_right _ (tm4 223 rfl))) (hE 20 (by omega))
      | 21, hq => cases hq; exact vk_R.of (A := #[Value.ref b]) (hts _ (List.mem_append_right _ (tm5 6 rfl))) (hE 21 (by omega))
      | i + 22, hq => simp [STRS] at hq
    · exact va_Zof (hts _ (List.mem_append_right _ (tm2 114 rfl))) (hts _ (List.mem_append_right _ (tm1 17 rfl))) (va_eqt (hm 4 (Cond.eq (.static "java/lang/String" "COMPACT_STRINGS" "Z") (.int 1)) (by decide +kernel))) hA
    · exact va_Zqof (hts _ (List.mem_append_right _ (tm4 116 rfl))) (hts _ (List.mem_append_right _ (tm1 12 rfl))) (hm 9 (Cond.isRef (.static "java/lang/Throwable" "UNASSIGNED_STACK" "[Ljava/lang/StackTraceElement;")) (by decide +kernel)) hA
    · exact va_Zqof (hts _ (List.mem_append_right _ (tm4 118 rfl))) (hts _ (List.mem_append_right _ (tm1 12 rfl))) (hm 10 (Cond.isRef (.static "java/lang/Throwable" "SUPPRESSED_SENTINEL" "Ljava/util/List;")) (by decide +kernel)) hA
    · exact va_Zqof (hts _ (List.mem_append_right _ (tm2 130 rfl))) (hts _ (List.mem_append_right _ (tm1 19 rfl))) (hm 5 (Cond.isRef (.static "jdk/internal/util/Preconditions" "SIOOBE_FORMATTER" "Ljava/util/function/BiFunction;")) (by decide +kernel)) hA
    · exact va_Nc.of (args := #[Value.ref b]) (hm 21 (Cond.not (.castable "java/lang/IllegalStateException" "java/lang/IllegalArgumentException")) (by decide +kernel))
    · exact va_AO.of ha4
    · exact va_AO.of ha6
    · exact va_AO.of ha5
    · exact va_Nw.of (A := #[Value.ref b]) rfl (hts _ (List.mem_append_right _ (tm4 91 rfl)))
    · exact va_Nw.of (A := #[Value.ref b]) rfl (hts _ (List.mem_append_right _ (tm4 157 rfl)))
  · exact ⟨va_Ls.of (hts _ (List.mem_append_right _ (tm4 116 rfl))) hA, va_Ls.of (hts _ (List.mem_append_right _ (tm4 118 rfl))) hA⟩
