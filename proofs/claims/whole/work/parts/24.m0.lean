/-! THE CLAIM OUT OF ONE WALK OF THE LAW'S BODY. Your part is whole_start (and what it stands on); all else here is the same for every law, but numbers. -/
def R_law : String := "LastCarLaw"
def lw_P (b : Addr) (xs : List Int32) (args : Array Value) (s : State) : Prop := args = #[.ref b] ∧ s.IntsAt b xs ∧ xs.length ≤ 384 ∧ (Jvm.Cond.and given_1 narrow_1).before args s = true
def lw_Q (_ : Array Value) (s : State) (o : Outcome) (t : State) : Prop := o = .returned (some (.int 1)) ∧ Framed s o t [] 600000 7302250
def lw_Z (below : List Frame) (a : Array Value) (s : State) : State → Prop := fun t => ∃ o, t.status = .running ∧ Ended t below o ∧ lw_Q a s o t
/-- the law's own end, with 1 on the stack, nothing written that was there before, its room as the claim has it -/
theorem lw_ret {p : Program} {l : Launch} {e : Env} {s : State} {m : MethodId} {below : List Frame} {meth : Method} {c : Code} {b : Nat} (hx : p.tables.exec = Jvm.exec) (hb : c.code = code) (hr : meth.sig.returnType = ret) (hlocks : meth.locks = false) {pc : Nat} {H : Heap} {ls : Array Slot} (hdg : decode code pc = .ok (.ireturn, 1)) : W p l e room_1 s m #[Value.ref b] below meth c H [] 600000 7302250 (lw_Z below #[Value.ref b] s) (F0 m pc ls [.int 1]) := by
  intro T hT X
  obtain ⟨fs, hret, hrun, hended, hW, hframe⟩ := X.leave (v := some (.int 1)) (hlocks := hlocks) (fun h => by rw [hr] at h; cases h)
  have hmeth' : T.vm.method? m = some meth := X.method'
  refine ⟨T.setFrames fs, ?_, .returned (some (.int 1)), hrun, hended, rfl, ⟨_, rfl⟩, hW, hframe⟩
  jvm_step X.here [X.here.top, hx, hb, hdg, hmeth', hr, ret, narrow_b1]
  (try refine ⟨rfl, ?_⟩); (try refine ⟨rfl, ?_⟩)
  first | (intro acts; rw [hret _ acts rfl rfl rfl]) | rw [hret _ _ rfl rfl rfl]
  exact Steps.refl _
/-- what holds at the law's entry: the machine, the code, the tables' words (any of lw_tbl by 'hts w (by decide +kernel)'), the script of L ints xs at the cell b, what the Statement gives of the start (any of its parts by flat_of_before) -/
def lw_At (p : Program) (s : State) (m : MethodId) (meth : Method) (c : Code) (b L : Nat) (xs : Nat → Int32) : Prop :=
  p.tables.exec = Jvm.exec ∧ c.code = code ∧ meth.sig.returnType = ret ∧ c.maxLocals = 4 ∧ s.vm.findClass R_law = some m.cls ∧ (∀ w ∈ lw_tbl, w.before #[Value.ref b] s = true) ∧ va_X b L xs s s.heap ∧ b < s.heap.size ∧ meth.locks = false ∧ (Jvm.Cond.and given_1 narrow_1).before #[Value.ref b] s = true
section RL
variable {p : Program} {l : Launch} {e : Env} {R : Room} {s : State} {m : MethodId} {args : Array Value} {below : List Frame} {meth : Method} {c : Code} {H : Heap} {locs : List Loc} {cells slots : Nat} {Q : State → Prop}
variable {g : GT} {cc : ByteArray} {nL pc : Nat} {own : String} {ret : Option FieldType} {A : Nat → Prop} {ls : Array Slot} {rest : List Value} {bs bs' : List va_W}
end RL
theorem lk_X7_back : LKC yX7_back cX7_back 1 (some .int) 0 := ⟨TW_at 763 (by decide +kernel) (by decide +kernel), TW_at 59 (by decide +kernel) (by decide +kernel), by decide +kernel, by decide +kernel, by decide +kernel⟩
theorem lk_X7_behind : LKC yX7_behind cX7_behind 5 (some .int) 2 := ⟨TW_at 699 (by decide +kernel) (by decide +kernel), TW_at 59 (by decide +kernel) (by decide +kernel), by decide +kernel, by decide +kernel, by decide +kernel⟩
theorem lk_X7_car : LKC yX7_car cX7_car 4 (some .int) 3 := ⟨TW_at 506 (by decide +kernel) (by decide +kernel), TW_at 59 (by decide +kernel) (by decide +kernel), by decide +kernel, by decide +kernel, by decide +kernel⟩
theorem lk_X7_cell : LKC yX7_cell cX7_cell 5 (some .int) 3 := ⟨TW_at 780 (by decide +kernel) (by decide +kernel), TW_at 59 (by decide +kernel) (by decide +kernel), by decide +kernel, by decide +kernel, by decide +kernel⟩
theorem lk_X7_choose : LKC yX7_choose cX7_choose 8 (some .long) 1 := ⟨TW_at 715 (by decide +kernel) (by decide +kernel), TW_at 59 (by decide +kernel) (by decide +kernel), by decide +kernel, by decide +kernel, by decide +kernel⟩
theorem lk_X7_copy : LKC yX7_copy cX7_copy 8 (some .int) 5 := ⟨TW_at 792 (by decide +kernel) (by decide +kernel), TW_at 59 (by decide +kernel) (by decide +kernel), by decide +kernel, by decide +kernel, by decide +kernel⟩
theorem lk_X7_count : LKC yX7_count cX7_count 2 (some .int) 1 := ⟨TW_at 767 (by decide +kernel) (by decide +kernel), TW_at 59 (by decide +kernel) (by decide +kernel), by decide +kernel, by decide +kernel, by decide +kernel⟩
theorem lk_X7_down : LKC yX7_down cX7_down 5 (some .int) 3 := ⟨TW_at 691 (by decide +kernel) (by decide +kernel), TW_at 59 (by decide +kernel) (by decide +kernel), by decide +kernel, by decide +kernel, by decide +kernel⟩
theorem lk_X7_feed : LKC yX7_feed cX7_feed 5 (some .int) 2 := ⟨TW_at 554 (by decide +kernel) (by decide +kernel), TW_at 59 (by decide +kernel) (by decide +kernel), by decide +kernel, by decide +kernel, by decide +kernel⟩
theorem lk_X7_force : LKC yX7_force cX7_force 3 (some .int) 1 := ⟨TW_at 566 (by decide +kernel) (by decide +kernel), TW_at 59 (by decide +kernel) (by decide +kernel), by decide +kernel, by decide +kernel, by decide +kernel⟩
theorem lk_X7_harm : LKC yX7_harm cX7_harm 3 (some .long) 1 := ⟨TW_at 672 (by decide +kernel) (by decide +kernel), TW_at 59 (by decide +kernel) (by decide +kernel), by decide +kernel, by decide +kernel, by decide +kernel⟩
theorem lk_X7_image : LKC yX7_image cX7_image 1 (some .int) 0 := ⟨TW_at 753 (by decide +kernel) (by decide +kernel), TW_at 59 (by decide +kernel) (by decide +kernel), by decide +kernel, by decide +kernel, by decide +kernel⟩
theorem lk_X7_judge : LKC yX7_judge cX7_judge 3 (some .int) 1 := ⟨TW_at 734 (by decide +kernel) (by decide +kernel), TW_at 59 (by decide +kernel) (by decide +kernel), by decide +kernel, by decide +kernel, by decide +kernel⟩
theorem lk_X7_latest : LKC yX7_latest cX7_latest 5 (some .int) 2 := ⟨TW_at 703 (by decide +kernel) (by decide +kernel), TW_at 59 (by decide +kernel) (by decide +kernel), by decide +kernel, by decide +kernel, by decide +kernel⟩
theorem lk_X7_latestUp : LKC yX7_latestUp cX7_latestUp 3 (some .int) 1 := ⟨TW_at 730 (by decide +kernel) (by decide +kernel), TW_at 59 (by decide +kernel) (by decide +kernel), by decide +kernel, by decide +kernel, by decide +kernel⟩
theorem lk_X7_left : LKC yX7_left cX7_left 4 (some .int) 2 := ⟨TW_at 570 (by decide +kernel) (by decide +kernel), TW_at 59 (by decide +kernel) (by decide +kernel), by decide +kernel, by decide +kernel, by decide +kernel⟩
theorem lk_X7_more : LKC yX7_more cX7_more 5 (some .int) 2 := ⟨TW_at 711 (by decide +kernel) (by decide +kernel), TW_at 59 (by decide +kernel) (by decide +kernel), by decide +kernel, by decide +kernel, by decide +kernel⟩
theorem lk_X7_must : LKC yX7_must cX7_must 3 (some .int) 0 := ⟨TW_at 719 (by decide +kernel) (by decide +kernel), TW_at 59 (by decide +kernel) (by decide +kernel), by decide +kernel, by decide +kernel, by decide +kernel⟩
theorem lk_X7_people : LKC yX7_people cX7_people 3 (some .int) 2 := ⟨TW_at 490 (by decide +kernel) (by decide +kernel), TW_at 59 (by decide +kernel) (by decide +kernel), by decide +kernel, by decide +kernel, by decide +kernel⟩
theorem lk_X7_rode : LKC yX7_rode cX7_rode 4 (some .int) 2 := ⟨TW_at 682 (by decide +kernel) (by decide +kernel), TW_at 59 (by decide +kernel) (by decide +kernel), by decide +kernel, by decide +kernel, by decide +kernel⟩
theorem lk_X7_set : LKC yX7_set cX7_set 6 (some .int) 3 := ⟨TW_at 521 (by decide +kernel) (by decide +kernel), TW_at 59 (by decide +kernel) (by decide +kernel), by decide +kernel, by decide +kernel, by decide +kernel⟩
theorem lk_X7_sheet : LKC yX7_sheet cX7_sheet 4 (some .int) 3 := ⟨TW_at 771 (by decide +kernel) (by decide +kernel), TW_at 59 (by decide +kernel) (by decide +kernel), by decide +kernel, by decide +kernel, by decide +kernel⟩
theorem lk_X7_shut : LKC yX7_shut cX7_shut 3 (some .int) 2 := ⟨TW_at 534 (by decide +kernel) (by decide +kernel), TW_at 59 (by decide +kernel) (by decide +kernel), by decide +kernel, by decide +kernel, by decide +kernel⟩
theorem lk_X7_sorts : LKC yX7_sorts cX7_sorts 9 (some .int) 4 := ⟨TW_at 801 (by decide +kernel) (by decide +kernel), TW_at 59 (by decide +kernel) (by decide +kernel), by decide +kernel, by decide +kernel, by decide +kernel⟩
theorem lk_X7_taken : LKC yX7_taken cX7_taken 4 (some .int) 2 := ⟨TW_at 805 (by decide +kernel) (by decide +kernel), TW_at 59 (by decide +kernel) (by decide +kernel), by decide +kernel, by decide +kernel, by decide +kernel⟩
theorem lk_X7_text : LKC yX7_text cX7_text 2 (some .int) 0 := ⟨TW_at 558 (by decide +kernel) (by decide +kernel), TW_at 59 (by decide +kernel) (by decide +kernel), by decide +kernel, by decide +kernel, by decide +kernel⟩
theorem lk_X7_told : LKC yX7_told cX7_told 5 (some .int) 3 := ⟨TW_at 538 (by decide +kernel) (by decide +kernel), TW_at 59 (by decide +kernel) (by decide +kernel), by decide +kernel, by decide +kernel, by decide +kernel⟩
theorem lk_X7_waits : LKC yX7_waits cX7_waits 4 (some .int) 2 := ⟨TW_at 687 (by decide +kernel) (by decide +kernel), TW_at 59 (by decide +kernel) (by decide +kernel), by decide +kernel, by decide +kernel, by decide +kernel⟩
theorem lk_X7_way : LKC yX7_way cX7_way 4 (some .int) 3 := ⟨TW_at 517 (by decide +kernel) (by decide +kernel), TW_at 59 (by decide +kernel) (by decide +kernel), by decide +kernel, by decide +kernel, by decide +kernel⟩
theorem lk_X8_back : LKC yX8_back cX8_back 2 (some .int) 0 := ⟨TW_at 1239 (by decide +kernel) (by decide +kernel), TW_at 72 (by decide +kernel) (by decide +kernel), by decide +kernel, by decide +kernel, by decide +kernel⟩
theorem lk_X8_behind : LKC yX8_behind cX8_behind 6 (some .int) 2 := ⟨TW_at 1204 (by decide +kernel) (by decide +kernel), TW_at 72 (by decide +kernel) (by decide +kernel), by decide +kernel, by decide +kernel, by decide +kernel⟩
theorem lk_X8_car : LKC yX8_car cX8_car 4 (some .int) 3 := ⟨TW_at 1012 (by decide +kernel) (by decide +kernel), TW_at 72 (by decide +kernel) (by decide +kernel), by decide +kernel, by decide +kernel, by decide +kernel⟩
theorem lk_X8_cell : LKC yX8_cell cX8_cell 4 (some .int) 3 := ⟨TW_at 1255 (by decide +kernel) (by decide +kernel), TW_at 72 (by decide +kernel) (by decide +kernel), by decide +kernel, by decide +kernel, by decide +kernel⟩
theorem lk_X8_choose : LKC yX8_choose cX8_choose 8 (some .long) 1 := ⟨TW_at 1216 (by decide +kernel) (by decide +kernel), TW_at 72 (by decide +kernel) (by decide +kernel), by decide +kernel, by decide +kernel, by decide +kernel⟩
theorem lk_X8_copy : LKC yX8_copy cX8_copy 7 (some .int) 5 := ⟨TW_at 1259 (by decide +kernel) (by decide +kernel), TW_at 72 (by decide +kernel) (by decide +kernel), by decide +kernel, by decide +kernel, by decide +kernel⟩
theorem lk_X8_count : LKC yX8_count cX8_count 2 (some .int) 1 := ⟨TW_at 1243 (by decide +kernel) (by decide +kernel), TW_at 72 (by decide +kernel) (by decide +kernel), by decide +kernel, by decide +kernel, by decide +kernel⟩
theorem lk_X8_down : LKC yX8_down cX8_down 6 (some .int) 3 := ⟨TW_at 1200 (by decide +kernel) (by decide +kernel), TW_at 72 (by decide +kernel) (by decide +kernel), by decide +kernel, by decide +kernel, by decide +kernel⟩
theorem lk_X8_feed : LKC yX8_feed cX8_feed 5 (some .int) 2 := ⟨TW_at 1051 (by decide +kernel) (by decide +kernel), TW_at 72 (by decide +kernel) (by decide +kernel), by decide +kernel, by decide +kernel, by decide +kernel⟩
theorem lk_X8_force : LKC yX8_force cX8_force 3 (some .int) 1 := ⟨TW_at 1121 (by decide +kernel) (by decide +kernel), TW_at 72 (by decide +kernel) (by decide +kernel), by decide +kernel, by decide +kernel, by decide +kernel⟩
theorem lk_X8_harm : LKC yX8_harm cX8_harm 2 (some .long) 1 := ⟨TW_at 1183 (by decide +kernel) (by decide +kernel), TW_at 72 (by decide +kernel) (by decide +kernel), by decide +kernel, by decide +kernel, by decide +kernel⟩
theorem lk_X8_image : LKC yX8_image cX8_image 2 (some .int) 0 := ⟨TW_at 1235 (by decide +kernel) (by decide +kernel), TW_at 72 (by decide +kernel) (by decide +kernel), by decide +kernel, by decide +kernel, by decide +kernel⟩
theorem lk_X8_judge : LKC yX8_judge cX8_judge 3 (some .int) 1 := ⟨TW_at 1228 (by decide +kernel) (by decide +kernel), TW_at 72 (by decide +kernel) (by decide +kernel), by decide +kernel, by decide +kernel, by decide +kernel⟩
theorem lk_X8_latest : LKC yX8_latest cX8_latest 6 (some .int) 2 := ⟨TW_at 1208 (by decide +kernel) (by decide +kernel), TW_at 72 (by decide +kernel) (by decide +kernel), by decide +kernel, by decide +kernel, by decide +kernel⟩
theorem lk_X8_latestUp : LKC yX8_latestUp cX8_latestUp 5 (some .int) 1 := ⟨TW_at 1224 (by decide +kernel) (by decide +kernel), TW_at 72 (by decide +kernel) (by decide +kernel), by decide +kernel, by decide +kernel, by decide +kernel⟩
theorem lk_X8_left : LKC yX8_left cX8_left 3 (some .int) 2 := ⟨TW_at 1125 (by decide +kernel) (by decide +kernel), TW_at 72 (by decide +kernel) (by decide +kernel), by decide +kernel, by decide +kernel, by decide +kernel⟩
theorem lk_X8_more : LKC yX8_more cX8_more 4 (some .int) 2 := ⟨TW_at 1212 (by decide +kernel) (by decide +kernel), TW_at 72 (by decide +kernel) (by decide +kernel), by decide +kernel, by decide +kernel, by decide +kernel⟩
theorem lk_X8_must : LKC yX8_must cX8_must 4 (some .int) 0 := ⟨TW_at 1220 (by decide +kernel) (by decide +kernel), TW_at 72 (by decide +kernel) (by decide +kernel), by decide +kernel, by decide +kernel, by decide +kernel⟩
theorem lk_X8_rode : LKC yX8_rode cX8_rode 5 (some .int) 2 := ⟨TW_at 1192 (by decide +kernel) (by decide +kernel), TW_at 72 (by decide +kernel) (by decide +kernel), by decide +kernel, by decide +kernel, by decide +kernel⟩
theorem lk_X8_set : LKC yX8_set cX8_set 5 (some .int) 3 := ⟨TW_at 1023 (by decide +kernel) (by decide +kernel), TW_at 72 (by decide +kernel) (by decide +kernel), by decide +kernel, by decide +kernel, by decide +kernel⟩
theorem lk_X8_sheet : LKC yX8_sheet cX8_sheet 5 (some .int) 3 := ⟨TW_at 1251 (by decide +kernel) (by decide +kernel), TW_at 72 (by decide +kernel) (by decide +kernel), by decide +kernel, by decide +kernel, by decide +kernel⟩
theorem lk_X8_shut : LKC yX8_shut cX8_shut 3 (some .int) 2 := ⟨TW_at 1031 (by decide +kernel) (by decide +kernel), TW_at 72 (by decide +kernel) (by decide +kernel), by decide +kernel, by decide +kernel, by decide +kernel⟩
theorem lk_X8_sorts : LKC yX8_sorts cX8_sorts 10 (some .int) 4 := ⟨TW_at 1263 (by decide +kernel) (by decide +kernel), TW_at 72 (by decide +kernel) (by decide +kernel), by decide +kernel, by decide +kernel, by decide +kernel⟩
theorem lk_X8_taken : LKC yX8_taken cX8_taken 3 (some .int) 2 := ⟨TW_at 1268 (by decide +kernel) (by decide +kernel), TW_at 72 (by decide +kernel) (by decide +kernel), by decide +kernel, by decide +kernel, by decide +kernel⟩
theorem lk_X8_text : LKC yX8_text cX8_text 2 (some .int) 0 := ⟨TW_at 1055 (by decide +kernel) (by decide +kernel), TW_at 72 (by decide +kernel) (by decide +kernel), by decide +kernel, by decide +kernel, by decide +kernel⟩
theorem lk_X8_told : LKC yX8_told cX8_told 4 (some .int) 3 := ⟨TW_at 1035 (by decide +kernel) (by decide +kernel), TW_at 72 (by decide +kernel) (by decide +kernel), by decide +kernel, by decide +kernel, by decide +kernel⟩
theorem lk_X8_waits : LKC yX8_waits cX8_waits 3 (some .int) 2 := ⟨TW_at 1196 (by decide +kernel) (by decide +kernel), TW_at 72 (by decide +kernel) (by decide +kernel), by decide +kernel, by decide +kernel, by decide +kernel⟩
theorem lk_X8_way : LKC yX8_way cX8_way 4 (some .int) 3 := ⟨TW_at 1019 (by decide +kernel) (by decide +kernel), TW_at 72 (by decide +kernel) (by decide +kernel), by decide +kernel, by decide +kernel, by decide +kernel⟩
theorem lv_X7_back : LKV yX7_back RX7 := ⟨TW_at 761 (by decide +kernel) (by decide +kernel), TW_at 762 (by decide +kernel) (by decide +kernel)⟩
theorem lv_X7_behind : LKV yX7_behind RX7 := ⟨TW_at 697 (by decide +kernel) (by decide +kernel), TW_at 698 (by decide +kernel) (by decide +kernel)⟩
theorem lv_X7_car : LKV yX7_car RX7 := ⟨TW_at 504 (by decide +kernel) (by decide +kernel), TW_at 505 (by decide +kernel) (by decide +kernel)⟩
theorem lv_X7_cell : LKV yX7_cell RX7 := ⟨TW_at 778 (by decide +kernel) (by decide +kernel), TW_at 779 (by decide +kernel) (by decide +kernel)⟩
theorem lv_X7_choose : LKV yX7_choose RX7 := ⟨TW_at 713 (by decide +kernel) (by decide +kernel), TW_at 714 (by decide +kernel) (by decide +kernel)⟩
theorem lv_X7_copy : LKV yX7_copy RX7 := ⟨TW_at 790 (by decide +kernel) (by decide +kernel), TW_at 791 (by decide +kernel) (by decide +kernel)⟩
theorem lv_X7_count : LKV yX7_count RX7 := ⟨TW_at 765 (by decide +kernel) (by decide +kernel), TW_at 766 (by decide +kernel) (by decide +kernel)⟩
theorem lv_X7_down : LKV yX7_down RX7 := ⟨TW_at 689 (by decide +kernel) (by decide +kernel), TW_at 690 (by decide +kernel) (by decide +kernel)⟩
theorem lv_X7_feed : LKV yX7_feed RX7 := ⟨TW_at 552 (by decide +kernel) (by decide +kernel), TW_at 553 (by decide +kernel) (by decide +kernel)⟩
theorem lv_X7_force : LKV yX7_force RX7 := ⟨TW_at 564 (by decide +kernel) (by decide +kernel), TW_at 565 (by decide +kernel) (by decide +kernel)⟩
theorem lv_X7_harm : LKV yX7_harm RX7 := ⟨TW_at 670 (by decide +kernel) (by decide +kernel), TW_at 671 (by decide +kernel) (by decide +kernel)⟩
theorem lv_X7_image : LKV yX7_image RX7 := ⟨TW_at 751 (by decide +kernel) (by decide +kernel), TW_at 752 (by decide +kernel) (by decide +kernel)⟩
theorem lv_X7_judge : LKV yX7_judge RX7 := ⟨TW_at 732 (by decide +kernel) (by decide +kernel), TW_at 733 (by decide +kernel) (by decide +kernel)⟩
theorem lv_X7_latest : LKV yX7_latest RX7 := ⟨TW_at 701 (by decide +kernel) (by decide +kernel), TW_at 702 (by decide +kernel) (by decide +kernel)⟩
theorem lv_X7_latestUp : LKV yX7_latestUp RX7 := ⟨TW_at 728 (by decide +kernel) (by decide +kernel), TW_at 729 (by decide +kernel) (by decide +kernel)⟩
theorem lv_X7_left : LKV yX7_left RX7 := ⟨TW_at 568 (by decide +kernel) (by decide +kernel), TW_at 569 (by decide +kernel) (by decide +kernel)⟩
theorem lv_X7_more : LKV yX7_more RX7 := ⟨TW_at 709 (by decide +kernel) (by decide +kernel), TW_at 710 (by decide +kernel) (by decide +kernel)⟩
theorem lv_X7_must : LKV yX7_must RX7 := ⟨TW_at 717 (by decide +kernel) (by decide +kernel), TW_at 718 (by decide +kernel) (by decide +kernel)⟩
theorem lv_X7_people : LKV yX7_people RX7 := ⟨TW_at 488 (by decide +kernel) (by decide +kernel), TW_at 489 (by decide +kernel) (by decide +kernel)⟩
theorem lv_X7_rode : LKV yX7_rode RX7 := ⟨TW_at 680 (by decide +kernel) (by decide +kernel), TW_at 681 (by decide +kernel) (by decide +kernel)⟩
theorem lv_X7_set : LKV yX7_set RX7 := ⟨TW_at 519 (by decide +kernel) (by decide +kernel), TW_at 520 (by decide +kernel) (by decide +kernel)⟩
theorem lv_X7_sheet : LKV yX7_sheet RX7 := ⟨TW_at 769 (by decide +kernel) (by decide +kernel), TW_at 770 (by decide +kernel) (by decide +kernel)⟩
theorem lv_X7_shut : LKV yX7_shut RX7 := ⟨TW_at 532 (by decide +kernel) (by decide +kernel), TW_at 533 (by decide +kernel) (by decide +kernel)⟩
theorem lv_X7_sorts : LKV yX7_sorts RX7 := ⟨TW_at 799 (by decide +kernel) (by decide +kernel), TW_at 800 (by decide +kernel) (by decide +kernel)⟩
theorem lv_X7_taken : LKV yX7_taken RX7 := ⟨TW_at 803 (by decide +kernel) (by decide +kernel), TW_at 804 (by decide +kernel) (by decide +kernel)⟩
theorem lv_X7_text : LKV yX7_text RX7 := ⟨TW_at 556 (by decide +kernel) (by decide +kernel), TW_at 557 (by decide +kernel) (by decide +kernel)⟩
theorem lv_X7_told : LKV yX7_told RX7 := ⟨TW_at 536 (by decide +kernel) (by decide +kernel), TW_at 537 (by decide +kernel) (by decide +kernel)⟩
theorem lv_X7_waits : LKV yX7_waits RX7 := ⟨TW_at 685 (by decide +kernel) (by decide +kernel), TW_at 686 (by decide +kernel) (by decide +kernel)⟩
theorem lv_X7_way : LKV yX7_way RX7 := ⟨TW_at 515 (by decide +kernel) (by decide +kernel), TW_at 516 (by decide +kernel) (by decide +kernel)⟩
theorem lv_X8_back : LKV yX8_back RX8 := ⟨TW_at 1237 (by decide +kernel) (by decide +kernel), TW_at 1238 (by decide +kernel) (by decide +kernel)⟩
theorem lv_X8_behind : LKV yX8_behind RX8 := ⟨TW_at 1202 (by decide +kernel) (by decide +kernel), TW_at 1203 (by decide +kernel) (by decide +kernel)⟩
theorem lv_X8_car : LKV yX8_car RX8 := ⟨TW_at 1010 (by decide +kernel) (by decide +kernel), TW_at 1011 (by decide +kernel) (by decide +kernel)⟩
theorem lv_X8_cell : LKV yX8_cell RX8 := ⟨TW_at 1253 (by decide +kernel) (by decide +kernel), TW_at 1254 (by decide +kernel) (by decide +kernel)⟩
theorem lv_X8_choose : LKV yX8_choose RX8 := ⟨TW_at 1214 (by decide +kernel) (by decide +kernel), TW_at 1215 (by decide +kernel) (by decide +kernel)⟩
theorem lv_X8_copy : LKV yX8_copy RX8 := ⟨TW_at 1257 (by decide +kernel) (by decide +kernel), TW_at 1258 (by decide +kernel) (by decide +kernel)⟩
theorem lv_X8_count : LKV yX8_count RX8 := ⟨TW_at 1241 (by decide +kernel) (by decide +kernel), TW_at 1242 (by decide +kernel) (by decide +kernel)⟩
theorem lv_X8_down : LKV yX8_down RX8 := ⟨TW_at 1198 (by decide +kernel) (by decide +kernel), TW_at 1199 (by decide +kernel) (by decide +kernel)⟩
theorem lv_X8_feed : LKV yX8_feed RX8 := ⟨TW_at 1049 (by decide +kernel) (by decide +kernel), TW_at 1050 (by decide +kernel) (by decide +kernel)⟩
theorem lv_X8_force : LKV yX8_force RX8 := ⟨TW_at 1119 (by decide +kernel) (by decide +kernel), TW_at 1120 (by decide +kernel) (by decide +kernel)⟩
theorem lv_X8_harm : LKV yX8_harm RX8 := ⟨TW_at 1181 (by decide +kernel) (by decide +kernel), TW_at 1182 (by decide +kernel) (by decide +kernel)⟩
theorem lv_X8_image : LKV yX8_image RX8 := ⟨TW_at 1233 (by decide +kernel) (by decide +kernel), TW_at 1234 (by decide +kernel) (by decide +kernel)⟩
theorem lv_X8_judge : LKV yX8_judge RX8 := ⟨TW_at 1226 (by decide +kernel) (by decide +kernel), TW_at 1227 (by decide +kernel) (by decide +kernel)⟩
theorem lv_X8_latest : LKV yX8_latest RX8 := ⟨TW_at 1206 (by decide +kernel) (by decide +kernel), TW_at 1207 (by decide +kernel) (by decide +kernel)⟩
theorem lv_X8_latestUp : LKV yX8_latestUp RX8 := ⟨TW_at 1222 (by decide +kernel) (by decide +kernel), TW_at 1223 (by decide +kernel) (by decide +kernel)⟩
theorem lv_X8_left : LKV yX8_left RX8 := ⟨TW_at 1123 (by decide +kernel) (by decide +kernel), TW_at 1124 (by decide +kernel) (by decide +kernel)⟩
theorem lv_X8_more : LKV yX8_more RX8 := ⟨TW_at 1210 (by decide +kernel) (by decide +kernel), TW_at 1211 (by decide +kernel) (by decide +kernel)⟩
theorem lv_X8_must : LKV yX8_must RX8 := ⟨TW_at 1218 (by decide +kernel) (by decide +kernel), TW_at 1219 (by decide +kernel) (by decide +kernel)⟩
theorem lv_X8_rode : LKV yX8_rode RX8 := ⟨TW_at 1190 (by decide +kernel) (by decide +kernel), TW_at 1191 (by decide +kernel) (by decide +kernel)⟩
theorem lv_X8_set : LKV yX8_set RX8 := ⟨TW_at 1021 (by decide +kernel) (by decide +kernel), TW_at 1022 (by decide +kernel) (by decide +kernel)⟩
theorem lv_X8_sheet : LKV yX8_sheet RX8 := ⟨TW_at 1249 (by decide +kernel) (by decide +kernel), TW_at 1250 (by decide +kernel) (by decide +kernel)⟩
theorem lv_X8_shut : LKV yX8_shut RX8 := ⟨TW_at 1029 (by decide +kernel) (by decide +kernel), TW_at 1030 (by decide +kernel) (by decide +kernel)⟩
theorem lv_X8_sorts : LKV yX8_sorts RX8 := ⟨TW_at 1261 (by decide +kernel) (by decide +kernel), TW_at 1262 (by decide +kernel) (by decide +kernel)⟩
theorem lv_X8_taken : LKV yX8_taken RX8 := ⟨TW_at 1266 (by decide +kernel) (by decide +kernel), TW_at 1267 (by decide +kernel) (by decide +kernel)⟩
theorem lv_X8_text : LKV yX8_text RX8 := ⟨TW_at 1053 (by decide +kernel) (by decide +kernel), TW_at 1054 (by decide +kernel) (by decide +kernel)⟩
theorem lv_X8_told : LKV yX8_told RX8 := ⟨TW_at 1033 (by decide +kernel) (by decide +kernel), TW_at 1034 (by decide +kernel) (by decide +kernel)⟩
theorem lv_X8_waits : LKV yX8_waits RX8 := ⟨TW_at 1194 (by decide +kernel) (by decide +kernel), TW_at 1195 (by decide +kernel) (by decide +kernel)⟩
theorem lv_X8_way : LKV yX8_way RX8 := ⟨TW_at 1017 (by decide +kernel) (by decide +kernel), TW_at 1018 (by decide +kernel) (by decide +kernel)⟩
theorem ml_L_100 : Cond.methodLink RL 100 yX8_latestUp ∈ TW := TW_at 1221 (by decide +kernel) (by decide +kernel)
theorem ml_L_101 : Cond.methodLink RL 101 yX7_judge ∈ TW := TW_at 731 (by decide +kernel) (by decide +kernel)
theorem ml_L_104 : Cond.methodLink RL 104 yX8_judge ∈ TW := TW_at 1225 (by decide +kernel) (by decide +kernel)
theorem ml_L_105 : Cond.methodLink RL 105 yX7_image ∈ TW := TW_at 750 (by decide +kernel) (by decide +kernel)
theorem ml_L_108 : Cond.methodLink RL 108 yX8_image ∈ TW := TW_at 1232 (by decide +kernel) (by decide +kernel)
theorem ml_L_109 : Cond.methodLink RL 109 yX7_back ∈ TW := TW_at 760 (by decide +kernel) (by decide +kernel)
theorem ml_L_112 : Cond.methodLink RL 112 yX8_back ∈ TW := TW_at 1236 (by decide +kernel) (by decide +kernel)
theorem ml_L_113 : Cond.methodLink RL 113 yX7_count ∈ TW := TW_at 764 (by decide +kernel) (by decide +kernel)
theorem ml_L_116 : Cond.methodLink RL 116 yX8_count ∈ TW := TW_at 1240 (by decide +kernel) (by decide +kernel)
theorem ml_L_117 : Cond.methodLink RL 117 yX7_sheet ∈ TW := TW_at 768 (by decide +kernel) (by decide +kernel)
theorem ml_L_120 : Cond.methodLink RL 120 yX8_sheet ∈ TW := TW_at 1248 (by decide +kernel) (by decide +kernel)
theorem ml_L_121 : Cond.methodLink RL 121 yX7_cell ∈ TW := TW_at 777 (by decide +kernel) (by decide +kernel)
theorem ml_L_124 : Cond.methodLink RL 124 yX8_cell ∈ TW := TW_at 1252 (by decide +kernel) (by decide +kernel)
theorem ml_L_125 : Cond.methodLink RL 125 yX7_copy ∈ TW := TW_at 789 (by decide +kernel) (by decide +kernel)
theorem ml_L_129 : Cond.methodLink RL 129 yX8_copy ∈ TW := TW_at 1256 (by decide +kernel) (by decide +kernel)
theorem ml_L_13 : Cond.methodLink RL 13 yX7_people ∈ TW := TW_at 487 (by decide +kernel) (by decide +kernel)
theorem ml_L_130 : Cond.methodLink RL 130 yX7_sorts ∈ TW := TW_at 798 (by decide +kernel) (by decide +kernel)
theorem ml_L_134 : Cond.methodLink RL 134 yX8_sorts ∈ TW := TW_at 1260 (by decide +kernel) (by decide +kernel)
theorem ml_L_135 : Cond.methodLink RL 135 yX7_taken ∈ TW := TW_at 802 (by decide +kernel) (by decide +kernel)
theorem ml_L_138 : Cond.methodLink RL 138 yX8_taken ∈ TW := TW_at 1265 (by decide +kernel) (by decide +kernel)
theorem ml_L_17 : Cond.methodLink RL 17 yX8_people ∈ TW := TW_at 1002 (by decide +kernel) (by decide +kernel)
theorem ml_L_18 : Cond.methodLink RL 18 yX7_car ∈ TW := TW_at 503 (by decide +kernel) (by decide +kernel)
theorem ml_L_22 : Cond.methodLink RL 22 yX8_car ∈ TW := TW_at 1009 (by decide +kernel) (by decide +kernel)
theorem ml_L_23 : Cond.methodLink RL 23 yX7_way ∈ TW := TW_at 514 (by decide +kernel) (by decide +kernel)
theorem ml_L_26 : Cond.methodLink RL 26 yX8_way ∈ TW := TW_at 1016 (by decide +kernel) (by decide +kernel)
theorem ml_L_27 : Cond.methodLink RL 27 yX7_set ∈ TW := TW_at 518 (by decide +kernel) (by decide +kernel)
theorem ml_L_30 : Cond.methodLink RL 30 yX8_set ∈ TW := TW_at 1020 (by decide +kernel) (by decide +kernel)
theorem ml_L_31 : Cond.methodLink RL 31 yX7_shut ∈ TW := TW_at 531 (by decide +kernel) (by decide +kernel)
theorem ml_L_34 : Cond.methodLink RL 34 yX8_shut ∈ TW := TW_at 1028 (by decide +kernel) (by decide +kernel)
theorem ml_L_35 : Cond.methodLink RL 35 yX7_told ∈ TW := TW_at 535 (by decide +kernel) (by decide +kernel)
theorem ml_L_38 : Cond.methodLink RL 38 yX8_told ∈ TW := TW_at 1032 (by decide +kernel) (by decide +kernel)
theorem ml_L_41 : Cond.methodLink RL 41 yX7_feed ∈ TW := TW_at 551 (by decide +kernel) (by decide +kernel)
theorem ml_L_45 : Cond.methodLink RL 45 yX8_feed ∈ TW := TW_at 1048 (by decide +kernel) (by decide +kernel)
theorem ml_L_46 : Cond.methodLink RL 46 yX7_text ∈ TW := TW_at 555 (by decide +kernel) (by decide +kernel)
theorem ml_L_50 : Cond.methodLink RL 50 yX8_text ∈ TW := TW_at 1052 (by decide +kernel) (by decide +kernel)
theorem ml_L_51 : Cond.methodLink RL 51 yX7_force ∈ TW := TW_at 563 (by decide +kernel) (by decide +kernel)
theorem ml_L_55 : Cond.methodLink RL 55 yX8_force ∈ TW := TW_at 1118 (by decide +kernel) (by decide +kernel)
theorem ml_L_56 : Cond.methodLink RL 56 yX7_left ∈ TW := TW_at 567 (by decide +kernel) (by decide +kernel)
theorem ml_L_59 : Cond.methodLink RL 59 yX8_left ∈ TW := TW_at 1122 (by decide +kernel) (by decide +kernel)
theorem ml_L_60 : Cond.methodLink RL 60 yX7_harm ∈ TW := TW_at 669 (by decide +kernel) (by decide +kernel)
theorem ml_L_64 : Cond.methodLink RL 64 yX8_harm ∈ TW := TW_at 1180 (by decide +kernel) (by decide +kernel)
theorem ml_L_65 : Cond.methodLink RL 65 yX7_rode ∈ TW := TW_at 679 (by decide +kernel) (by decide +kernel)
theorem ml_L_68 : Cond.methodLink RL 68 yX8_rode ∈ TW := TW_at 1189 (by decide +kernel) (by decide +kernel)
theorem ml_L_69 : Cond.methodLink RL 69 yX7_waits ∈ TW := TW_at 684 (by decide +kernel) (by decide +kernel)
theorem ml_L_72 : Cond.methodLink RL 72 yX8_waits ∈ TW := TW_at 1193 (by decide +kernel) (by decide +kernel)
theorem ml_L_73 : Cond.methodLink RL 73 yX7_down ∈ TW := TW_at 688 (by decide +kernel) (by decide +kernel)
theorem ml_L_76 : Cond.methodLink RL 76 yX8_down ∈ TW := TW_at 1197 (by decide +kernel) (by decide +kernel)
theorem ml_L_77 : Cond.methodLink RL 77 yX7_behind ∈ TW := TW_at 696 (by decide +kernel) (by decide +kernel)
theorem ml_L_80 : Cond.methodLink RL 80 yX8_behind ∈ TW := TW_at 1201 (by decide +kernel) (by decide +kernel)
theorem ml_L_81 : Cond.methodLink RL 81 yX7_latest ∈ TW := TW_at 700 (by decide +kernel) (by decide +kernel)
theorem ml_L_84 : Cond.methodLink RL 84 yX8_latest ∈ TW := TW_at 1205 (by decide +kernel) (by decide +kernel)
theorem ml_L_85 : Cond.methodLink RL 85 yX7_more ∈ TW := TW_at 708 (by decide +kernel) (by decide +kernel)
theorem ml_L_88 : Cond.methodLink RL 88 yX8_more ∈ TW := TW_at 1209 (by decide +kernel) (by decide +kernel)
theorem ml_L_89 : Cond.methodLink RL 89 yX7_choose ∈ TW := TW_at 712 (by decide +kernel) (by decide +kernel)
theorem ml_L_92 : Cond.methodLink RL 92 yX8_choose ∈ TW := TW_at 1213 (by decide +kernel) (by decide +kernel)
theorem ml_L_93 : Cond.methodLink RL 93 yX7_must ∈ TW := TW_at 716 (by decide +kernel) (by decide +kernel)
theorem ml_L_96 : Cond.methodLink RL 96 yX8_must ∈ TW := TW_at 1217 (by decide +kernel) (by decide +kernel)
theorem ml_L_97 : Cond.methodLink RL 97 yX7_latestUp ∈ TW := TW_at 727 (by decide +kernel) (by decide +kernel)
theorem kl_L_39 : Cond.constantLong RL 39 4294967295 ∈ TW := TW_at 1272 (by decide +kernel) (by decide +kernel)
