/-! The layout of the objects behind the two constructors, by program (wip/whole/tools/gen9.py). -/
abbrev x_ : Int := 33555722
abbrev x_will_ : Int := 34603913
abbrev x_will_owner_ : Int := 35652072
abbrev x_will_kinds_ : Int := 36700584
abbrev x_will_marks_ : Int := 37749160
abbrev x_will_terms_ : Int := 38797608
abbrev x_will_held_ : Int := 39846248
abbrev x_will_toldOf_ : Int := 40894888
abbrev x_will_toldMuch_ : Int := 41943464
abbrev x_will_lawAt_ : Int := 42992044
abbrev x_before_ : Int := 44041097
abbrev x_before_owner_ : Int := 45089256
abbrev x_before_kinds_ : Int := 46137768
abbrev x_before_marks_ : Int := 47186344
abbrev x_before_terms_ : Int := 48234792
abbrev x_before_held_ : Int := 49283432
abbrev x_before_toldOf_ : Int := 50332072
abbrev x_before_toldMuch_ : Int := 51380648
abbrev x_before_lawAt_ : Int := 52429228
abbrev x_images_ : Int := 53477549
abbrev x_log_ : Int := 54526211
abbrev x_log_what_ : Int := 55575592
abbrev x_log_where_ : Int := 56624168
abbrev x_log_was_ : Int := 57672744
abbrev x_logBefore_ : Int := 58720515
abbrev x_logBefore_what_ : Int := 59769896
abbrev x_logBefore_where_ : Int := 60818472
abbrev x_logBefore_was_ : Int := 61867048
abbrev x_reader_ : Int := 62915141
abbrev x_reader_bytes_ : Int := 63988776
abbrev x_reader_text_ : Int := 65012232
abbrev x_reader_text_head_ : Int := 66061096
abbrev x_reader_text_first_ : Int := 67109672
abbrev x_reader_text_second_ : Int := 68158248
abbrev x_reader_text_test_ : Int := 69206824
abbrev x_reader_text_repeats_ : Int := 70255400
abbrev x_reader_text_code_ : Int := 71328808
abbrev x_orderSums_ : Int := 72351879
abbrev x_orderSums_words_ : Int := 73401448
abbrev x_orderSums_stack_ : Int := 74452136
abbrev x_forest_ : Int := 75497857
abbrev x_forest_deep_ : Int := 76596776
abbrev x_forest_above_ : Int := 77601577
abbrev x_forest_list_ : Int := 78651688
abbrev x_ledger_ : Int := 79691970
abbrev x_ledger_got_ : Int := 80791080
abbrev x_ledger_paper_ : Int := 81789508
abbrev x_ledger_paper_would_ : Int := 82837928
abbrev x_ledger_paper_first_ : Int := 83886504
abbrev x_ledger_paper_sums_ : Int := 84934791
abbrev x_ledger_paper_sums_words_ : Int := 85984360
abbrev x_ledger_paper_sums_stack_ : Int := 87035048
abbrev x_ledger_isKnown_ : Int := 88088874
abbrev x_paper_ : Int := 89129540
abbrev x_paper_would_ : Int := 90177960
abbrev x_paper_first_ : Int := 91226536
abbrev x_paper_sums_ : Int := 92274823
abbrev x_paper_sums_words_ : Int := 93324392
abbrev x_paper_sums_stack_ : Int := 94375080
abbrev x_settler_ : Int := 95420806
abbrev x_settler_trial_ : Int := 96469416
abbrev x_settler_wrong_ : Int := 97517801
abbrev x_fitting_ : Int := 98574632
abbrev x_chances_ : Int := 99616041
abbrev x_refusals_ : Int := 100663656
abbrev m_ : Int := 101715403
abbrev m_refused_ : Int := 102760936
abbrev m_kept_ : Int := 104171176
abbrev m_images_ : Int := 105581864
abbrev m_hasImage_ : Int := 105906346
abbrev m_aside_ : Int := 106957224
abbrev m_words_ : Int := 108011883
abbrev m_tape_ : Int := 109077547
abbrev m_five_ : Int := 110100840
abbrev m_code_ : Int := 111174760
abbrev m_value_ : Int := 112223336
abbrev m_placed_ : Int := 113271912
abbrev m_asked_ : Int := 114295336
abbrev m_catalan_ : Int := 115343848
abbrev m_low_ : Int := 116442664
abbrev m_high_ : Int := 117491240
abbrev m_marks_ : Int := 118489512
abbrev m_treeOf_ : Int := 119546152
abbrev m_would_ : Int := 120586664
abbrev m_got_ : Int := 121685544
abbrev m_bestMarks_ : Int := 122683816
abbrev m_givesSo_ : Int := 123740458
abbrev m_parts_ : Int := 124781929
abbrev m_left0_ : Int := 125849640
abbrev m_leftAhead_ : Int := 126898216
abbrev m_sums_ : Int := 127926441
abbrev m_drawnMoved_ : Int := 128976104
def la_n (c j : Nat) : Option Int := bif Nat.ble c 72351879 then (bif Nat.ble c 54526211 then (bif Nat.ble c 34603913 then (bif Nat.ble c 33555722 then (bif Nat.beq c 33555722 then (bif Nat.beq j 0 then some 34603913 else bif Nat.beq j 1 then some 44041097 else bif Nat.beq j 2 then some 53477549 else bif Nat.beq j 3 then some 54526211 else bif Nat.beq j 4 then some 58720515 else bif Nat.beq j 5 then some 62915141 else bif Nat.beq j 6 then some 72351879 else bif Nat.beq j 7 then some 75497857 else bif Nat.beq j 8 then some 79691970 else bif Nat.beq j 9 then some 89129540 else bif Nat.beq j 10 then some 95420806 else bif Nat.beq j 11 then some 98574632 else bif Nat.beq j 12 then some 99616041 else bif Nat.beq j 13 then some 100663656 else none) else none) else (bif Nat.beq c 34603913 then (bif Nat.beq j 1 then some 35652072 else bif Nat.beq j 2 then some 36700584 else bif Nat.beq j 3 then some 37749160 else bif Nat.beq j 5 then some 38797608 else bif Nat.beq j 7 then some 39846248 else bif Nat.beq j 9 then some 40894888 else bif Nat.beq j 10 then some 41943464 else bif Nat.beq j 12 then some 42992044 else none) else none)) else (bif Nat.ble c 44041097 then (bif Nat.beq c 44041097 then (bif Nat.beq j 1 then some 45089256 else bif Nat.beq j 2 then some 46137768 else bif Nat.beq j 3 then some 47186344 else bif Nat.beq j 5 then some 48234792 else bif Nat.beq j 7 then some 49283432 else bif Nat.beq j 9 then some 50332072 else bif Nat.beq j 10 then some 51380648 else bif Nat.beq j 12 then some 52429228 else none) else none) else (bif Nat.beq c 54526211 then (bif Nat.beq j 1 then some 55575592 else bif Nat.beq j 2 then some 56624168 else bif Nat.beq j 3 then some 57672744 else none) else none))) else (bif Nat.ble c 62915141 then (bif Nat.ble c 58720515 then (bif Nat.beq c 58720515 then (bif Nat.beq j 1 then some 59769896 else bif Nat.beq j 2 then some 60818472 else bif Nat.beq j 3 then some 61867048 else none) else none) else (bif Nat.beq c 62915141 then (bif Nat.beq j 0 then some 63988776 else bif Nat.beq j 3 then some 65012232 else none) else none)) else (bif Nat.ble c 65012232 then (bif Nat.beq c 65012232 then (bif Nat.beq j 2 then some 66061096 else bif Nat.beq j 3 then some 67109672 else bif Nat.beq j 4 then some 68158248 else bif Nat.beq j 5 then some 69206824 else bif Nat.beq j 6 then some 70255400 else bif Nat.beq j 7 then some 71328808 else none) else none) else (bif Nat.beq c 72351879 then (bif Nat.beq j 0 then some 73401448 else bif Nat.beq j 1 then some 74452136 else none) else none)))) else (bif Nat.ble c 84934791 then (bif Nat.ble c 79691970 then (bif Nat.ble c 75497857 then (bif Nat.beq c 75497857 then (bif Nat.beq j 1 then some 76596776 else bif Nat.beq j 2 then some 77601577 else bif Nat.beq j 3 then some 78651688 else none) else none) else (bif Nat.beq c 79691970 then (bif Nat.beq j 0 then some 80791080 else bif Nat.beq j 1 then some 81789508 else bif Nat.beq j 2 then some 88088874 else none) else none)) else (bif Nat.ble c 81789508 then (bif Nat.beq c 81789508 then (bif Nat.beq j 0 then some 82837928 else bif Nat.beq j 1 then some 83886504 else bif Nat.beq j 4 then some 84934791 else none) else none) else (bif Nat.beq c 84934791 then (bif Nat.beq j 0 then some 85984360 else bif Nat.beq j 1 then some 87035048 else none) else none))) else (bif Nat.ble c 92274823 then (bif Nat.ble c 89129540 then (bif Nat.beq c 89129540 then (bif Nat.beq j 0 then some 90177960 else bif Nat.beq j 1 then some 91226536 else bif Nat.beq j 4 then some 92274823 else none) else none) else (bif Nat.beq c 92274823 then (bif Nat.beq j 0 then some 93324392 else bif Nat.beq j 1 then some 94375080 else none) else none)) else (bif Nat.ble c 95420806 then (bif Nat.beq c 95420806 then (bif Nat.beq j 2 then some 96469416 else bif Nat.beq j 3 then some 97517801 else none) else none) else (bif Nat.beq c 101715403 then (bif Nat.beq j 1 then some 102760936 else bif Nat.beq j 2 then some 104171176 else bif Nat.beq j 3 then some 105581864 else bif Nat.beq j 4 then some 105906346 else bif Nat.beq j 5 then some 106957224 else bif Nat.beq j 7 then some 108011883 else bif Nat.beq j 11 then some 109077547 else bif Nat.beq j 12 then some 110100840 else bif Nat.beq j 15 then some 111174760 else bif Nat.beq j 16 then some 112223336 else bif Nat.beq j 17 then some 113271912 else bif Nat.beq j 26 then some 114295336 else bif Nat.beq j 29 then some 115343848 else bif Nat.beq j 30 then some 116442664 else bif Nat.beq j 31 then some 117491240 else bif Nat.beq j 33 then some 118489512 else bif Nat.beq j 34 then some 119546152 else bif Nat.beq j 36 then some 120586664 else bif Nat.beq j 37 then some 121685544 else bif Nat.beq j 39 then some 122683816 else bif Nat.beq j 40 then some 123740458 else bif Nat.beq j 41 then some 124781929 else bif Nat.beq j 42 then some 125849640 else bif Nat.beq j 43 then some 126898216 else bif Nat.beq j 51 then some 127926441 else bif Nat.beq j 52 then some 128976104 else none) else none))))
/-- what a final field of these objects holds -/
def la_f (c j : Int) : Option Int := la_n c.toNat j.toNat
def la_l : List (Int × Int × Int) := [(33555722, 0, 34603913), (33555722, 1, 44041097), (33555722, 2, 53477549), (33555722, 3, 54526211), (33555722, 4, 58720515), (33555722, 5, 62915141), (33555722, 6, 72351879), (33555722, 7, 75497857), (33555722, 8, 79691970), (33555722, 9, 89129540), (33555722, 10, 95420806), (33555722, 11, 98574632), (33555722, 12, 99616041), (33555722, 13, 100663656), (34603913, 1, 35652072), (34603913, 2, 36700584), (34603913, 3, 37749160), (34603913, 5, 38797608), (34603913, 7, 39846248), (34603913, 9, 40894888), (34603913, 10, 41943464), (34603913, 12, 42992044), (44041097, 1, 45089256), (44041097, 2, 46137768), (44041097, 3, 47186344), (44041097, 5, 48234792), (44041097, 7, 49283432), (44041097, 9, 50332072), (44041097, 10, 51380648), (44041097, 12, 52429228), (54526211, 1, 55575592), (54526211, 2, 56624168), (54526211, 3, 57672744), (58720515, 1, 59769896), (58720515, 2, 60818472), (58720515, 3, 61867048), (62915141, 0, 63988776), (62915141, 3, 65012232), (65012232, 2, 66061096), (65012232, 3, 67109672), (65012232, 4, 68158248), (65012232, 5, 69206824), (65012232, 6, 70255400), (65012232, 7, 71328808), (72351879, 0, 73401448), (72351879, 1, 74452136), (75497857, 1, 76596776), (75497857, 2, 77601577), (75497857, 3, 78651688), (79691970, 0, 80791080), (79691970, 1, 81789508), (79691970, 2, 88088874), (81789508, 0, 82837928), (81789508, 1, 83886504), (81789508, 4, 84934791), (84934791, 0, 85984360), (84934791, 1, 87035048), (89129540, 0, 90177960), (89129540, 1, 91226536), (89129540, 4, 92274823), (92274823, 0, 93324392), (92274823, 1, 94375080), (95420806, 2, 96469416), (95420806, 3, 97517801), (101715403, 1, 102760936), (101715403, 2, 104171176), (101715403, 3, 105581864), (101715403, 4, 105906346), (101715403, 5, 106957224), (101715403, 7, 108011883), (101715403, 11, 109077547), (101715403, 12, 110100840), (101715403, 15, 111174760), (101715403, 16, 112223336), (101715403, 17, 113271912), (101715403, 26, 114295336), (101715403, 29, 115343848), (101715403, 30, 116442664), (101715403, 31, 117491240), (101715403, 33, 118489512), (101715403, 34, 119546152), (101715403, 36, 120586664), (101715403, 37, 121685544), (101715403, 39, 122683816), (101715403, 40, 123740458), (101715403, 41, 124781929), (101715403, 42, 125849640), (101715403, 43, 126898216), (101715403, 51, 127926441), (101715403, 52, 128976104)]
def la_ok (m : cw_M) : Prop := 124 ≤ m (-1) 0 ∧ ∀ e ∈ la_l, m e.1 e.2.1 = e.2.2
theorem la_b {α : Type} {a b : Nat} {A B : Option α} {q : α} {P : Prop} (h : (bif Nat.beq a b then A else B) = some q) (h1 : a = b → A = some q → P) (h2 : B = some q → P) : P := by
  cases hb : Nat.beq a b with
  | true => rw [hb] at h; exact h1 (Nat.eq_of_beq_eq_true hb) h
  | false => rw [hb] at h; exact h2 h
theorem la_mem {c j : Nat} {v : Int} (h : la_n c j = some v) : ∃ e ∈ la_l, c = e.1.toNat ∧ j = e.2.1.toNat ∧ e.2.2 = v := by
  unfold la_n at h
  exact cw_bif h (fun h => cw_bif h (fun h => cw_bif h (fun h => cw_bif h (fun h => la_b h (fun hc h => la_b h (fun hj h => ⟨(33555722, 0, 34603913), by decide, hc, hj, Option.some.inj h⟩) (fun h => la_b h (fun hj h => ⟨(33555722, 1, 44041097), by decide, hc, hj, Option.some.inj h⟩) (fun h => la_b h (fun hj h => ⟨(33555722, 2, 53477549), by decide, hc, hj, Option.some.inj h⟩) (fun h => la_b h (fun hj h => ⟨(33555722, 3, 54526211), by decide, hc, hj, Option.some.inj h⟩) (fun h => la_b h (fun hj h => ⟨(33555722, 4, 58720515), by decide, hc, hj, Option.some.inj h⟩) (fun h => la_b h (fun hj h => ⟨(33555722, 5, 62915141), by decide, hc, hj, Option.some.inj h⟩) (fun h => la_b h (fun hj h => ⟨(33555722, 6, 72351879), by decide, hc, hj, Option.some.inj h⟩) (fun h => la_b h (fun hj h => ⟨(33555722, 7, 75497857), by decide, hc, hj, Option.some.inj h⟩) (fun h => la_b h (fun hj h => ⟨(33555722, 8, 79691970), by decide, hc, hj, Option.some.inj h⟩) (fun h => la_b h (fun hj h => ⟨(33555722, 9, 89129540), by decide, hc, hj, Option.some.inj h⟩) (fun h => la_b h (fun hj h => ⟨(33555722, 10, 95420806), by decide, hc, hj, Option.some.inj h⟩) (fun h => la_b h (fun hj h => ⟨(33555722, 11, 98574632), by decide, hc, hj, Option.some.inj h⟩) (fun h => la_b h (fun hj h => ⟨(33555722, 12, 99616041), by decide, hc, hj, Option.some.inj h⟩) (fun h => la_b h (fun hj h => ⟨(33555722, 13, 100663656), by decide, hc, hj, Option.some.inj h⟩) (fun h => by cases h))))))))))))))) (fun h => by cases h)) (fun h => la_b h (fun hc h => la_b h (fun hj h => ⟨(34603913, 1, 35652072), by decide, hc, hj, Option.some.inj h⟩) (fun h => la_b h (fun hj h => ⟨(34603913, 2, 36700584), by decide, hc, hj, Option.some.inj h⟩) (fun h => la_b h (fun hj h => ⟨(34603913, 3, 37749160), by decide, hc, hj, Option.some.inj h⟩) (fun h => la_b h (fun hj h => ⟨(34603913, 5, 38797608), by decide, hc, hj, Option.some.inj h⟩) (fun h => la_b h (fun hj h => ⟨(34603913, 7, 39846248), by decide, hc, hj, Option.some.inj h⟩) (fun h => la_b h (fun hj h => ⟨(34603913, 9, 40894888), by decide, hc, hj, Option.some.inj h⟩) (fun h => la_b h (fun hj h => ⟨(34603913, 10, 41943464), by decide, hc, hj, Option.some.inj h⟩) (fun h => la_b h (fun hj h => ⟨(34603913, 12, 42992044), by decide, hc, hj, Option.some.inj h⟩) (fun h => by cases h))))))))) (fun h => by cases h))) (fun h => cw_bif h (fun h => la_b h (fun hc h => la_b h (fun hj h => ⟨(44041097, 1, 45089256), by decide, hc, hj, Option.some.inj h⟩) (fun h => la_b h (fun hj h => ⟨(44041097, 2, 46137768), by decide, hc, hj, Option.some.inj h⟩) (fun h => la_b h (fun hj h => ⟨(44041097, 3, 47186344), by decide, hc, hj, Option.some.inj h⟩) (fun h => la_b h (fun hj h => ⟨(44041097, 5, 48234792), by decide, hc, hj, Option.some.inj h⟩) (fun h => la_b h (fun hj h => ⟨(44041097, 7, 49283432), by decide, hc, hj, Option.some.inj h⟩) (fun h => la_b h (fun hj h => ⟨(44041097, 9, 50332072), by decide, hc, hj, Option.some.inj h⟩) (fun h => la_b h (fun hj h => ⟨(44041097, 10, 51380648), by decide, hc, hj, Option.some.inj h⟩) (fun h => la_b h (fun hj h => ⟨(44041097, 12, 52429228), by decide, hc, hj, Option.some.inj h⟩) (fun h => by cases h))))))))) (fun h => by cases h)) (fun h => la_b h (fun hc h => la_b h (fun hj h => ⟨(54526211, 1, 55575592), by decide, hc, hj, Option.some.inj h⟩) (fun h => la_b h (fun hj h => ⟨(54526211, 2, 56624168), by decide, hc, hj, Option.some.inj h⟩) (fun h => la_b h (fun hj h => ⟨(54526211, 3, 57672744), by decide, hc, hj, Option.some.inj h⟩) (fun h => by cases h)))) (fun h => by cases h)))) (fun h => cw_bif h (fun h => cw_bif h (fun h => la_b h (fun hc h => la_b h (fun hj h => ⟨(58720515, 1, 59769896), by decide, hc, hj, Option.some.inj h⟩) (fun h => la_b h (fun hj h => ⟨(58720515, 2, 60818472), by decide, hc, hj, Option.some.inj h⟩) (fun h => la_b h (fun hj h => ⟨(58720515, 3, 61867048), by decide, hc, hj, Option.some.inj h⟩) (fun h => by cases h)))) (fun h => by cases h)) (fun h => la_b h (fun hc h => la_b h (fun hj h => ⟨(62915141, 0, 63988776), by decide, hc, hj, Option.some.inj h⟩) (fun h => la_b h (fun hj h => ⟨(62915141, 3, 65012232), by decide, hc, hj, Option.some.inj h⟩) (fun h => by cases h))) (fun h => by cases h))) (fun h => cw_bif h (fun h => la_b h (fun hc h => la_b h (fun hj h => ⟨(65012232, 2, 66061096), by decide, hc, hj, Option.some.inj h⟩) (fun h => la_b h (fun hj h => ⟨(65012232, 3, 67109672), by decide, hc, hj, Option.some.inj h⟩) (fun h => la_b h (fun hj h => ⟨(65012232, 4, 68158248), by decide, hc, hj, Option.some.inj h⟩) (fun h => la_b h (fun hj h => ⟨(65012232, 5, 69206824), by decide, hc, hj, Option.some.inj h⟩) (fun h => la_b h (fun hj h => ⟨(65012232, 6, 70255400), by decide, hc, hj, Option.some.inj h⟩) (fun h => la_b h (fun hj h => ⟨(65012232, 7, 71328808), by decide, hc, hj, Option.some.inj h⟩) (fun h => by cases h))))))) (fun h => by cases h)) (fun h => la_b h (fun hc h => la_b h (fun hj h => ⟨(72351879, 0, 73401448), by decide, hc, hj, Option.some.inj h⟩) (fun h => la_b h (fun hj h => ⟨(72351879, 1, 74452136), by decide, hc, hj, Option.some.inj h⟩) (fun h => by cases h))) (fun h => by cases h))))) (fun h => cw_bif h (fun h => cw_bif h (fun h => cw_bif h (fun h => la_b h (fun hc h => la_b h (fun hj h => ⟨(75497857, 1, 76596776), by decide, hc, hj, Option.some.inj h⟩) (fun h => la_b h (fun hj h => ⟨(75497857, 2, 77601577), by decide, hc, hj, Option.some.inj h⟩) (fun h => la_b h (fun hj h => ⟨(75497857, 3, 78651688), by decide, hc, hj, Option.some.inj h⟩) (fun h => by cases h)))) (fun h => by cases h)) (fun h => la_b h (fun hc h => la_b h (fun hj h => ⟨(79691970, 0, 80791080), by decide, hc, hj, Option.some.inj h⟩) (fun h => la_b h (fun hj h => ⟨(79691970, 1, 81789508), by decide, hc, hj, Option.some.inj h⟩) (fun h => la_b h (fun hj h => ⟨(79691970, 2, 88088874), by decide, hc, hj, Option.some.inj h⟩) (fun h => by cases h)))) (fun h => by cases h))) (fun h => cw_bif h (fun h => la_b h (fun hc h => la_b h (fun hj h => ⟨(81789508, 0, 82837928), by decide, hc, hj, Option.some.inj h⟩) (fun h => la_b h (fun hj h => ⟨(81789508, 1, 83886504), by decide, hc, hj, Option.some.inj h⟩) (fun h => la_b h (fun hj h => ⟨(81789508, 4, 84934791), by decide, hc, hj, Option.some.inj h⟩) (fun h => by cases h)))) (fun h => by cases h)) (fun h => la_b h (fun hc h => la_b h (fun hj h => ⟨(84934791, 0, 85984360), by decide, hc, hj, Option.some.inj h⟩) (fun h => la_b h (fun hj h => ⟨(84934791, 1, 87035048), by decide, hc, hj, Option.some.inj h⟩) (fun h => by cases h))) (fun h => by cases h)))) (fun h => cw_bif h (fun h => cw_bif h (fun h => la_b h (fun hc h => la_b h (fun hj h => ⟨(89129540, 0, 90177960), by decide, hc, hj, Option.some.inj h⟩) (fun h => la_b h (fun hj h => ⟨(89129540, 1, 91226536), by decide, hc, hj, Option.some.inj h⟩) (fun h => la_b h (fun hj h => ⟨(89129540, 4, 92274823), by decide, hc, hj, Option.some.inj h⟩) (fun h => by cases h)))) (fun h => by cases h)) (fun h => la_b h (fun hc h => la_b h (fun hj h => ⟨(92274823, 0, 93324392), by decide, hc, hj, Option.some.inj h⟩) (fun h => la_b h (fun hj h => ⟨(92274823, 1, 94375080), by decide, hc, hj, Option.some.inj h⟩) (fun h => by cases h))) (fun h => by cases h))) (fun h => cw_bif h (fun h => la_b h (fun hc h => la_b h (fun hj h => ⟨(95420806, 2, 96469416), by decide, hc, hj, Option.some.inj h⟩) (fun h => la_b h (fun hj h => ⟨(95420806, 3, 97517801), by decide, hc, hj, Option.some.inj h⟩) (fun h => by cases h))) (fun h => by cases h)) (fun h => la_b h (fun hc h => la_b h (fun hj h => ⟨(101715403, 1, 102760936), by decide, hc, hj, Option.some.inj h⟩) (fun h => la_b h (fun hj h => ⟨(101715403, 2, 104171176), by decide, hc, hj, Option.some.inj h⟩) (fun h => la_b h (fun hj h => ⟨(101715403, 3, 105581864), by decide, hc, hj, Option.some.inj h⟩) (fun h => la_b h (fun hj h => ⟨(101715403, 4, 105906346), by decide, hc, hj, Option.some.inj h⟩) (fun h => la_b h (fun hj h => ⟨(101715403, 5, 106957224), by decide, hc, hj, Option.some.inj h⟩) (fun h => la_b h (fun hj h => ⟨(101715403, 7, 108011883), by decide, hc, hj, Option.some.inj h⟩) (fun h => la_b h (fun hj h => ⟨(101715403, 11, 109077547), by decide, hc, hj, Option.some.inj h⟩) (fun h => la_b h (fun hj h => ⟨(101715403, 12, 110100840), by decide, hc, hj, Option.some.inj h⟩) (fun h => la_b h (fun hj h => ⟨(101715403, 15, 111174760), by decide, hc, hj, Option.some.inj h⟩) (fun h => la_b h (fun hj h => ⟨(101715403, 16, 112223336), by decide, hc, hj, Option.some.inj h⟩) (fun h => la_b h (fun hj h => ⟨(101715403, 17, 113271912), by decide, hc, hj, Option.some.inj h⟩) (fun h => la_b h (fun hj h => ⟨(101715403, 26, 114295336), by decide, hc, hj, Option.some.inj h⟩) (fun h => la_b h (fun hj h => ⟨(101715403, 29, 115343848), by decide, hc, hj, Option.some.inj h⟩) (fun h => la_b h (fun hj h => ⟨(101715403, 30, 116442664), by decide, hc, hj, Option.some.inj h⟩) (fun h => la_b h (fun hj h => ⟨(101715403, 31, 117491240), by decide, hc, hj, Option.some.inj h⟩) (fun h => la_b h (fun hj h => ⟨(101715403, 33, 118489512), by decide, hc, hj, Option.some.inj h⟩) (fun h => la_b h (fun hj h => ⟨(101715403, 34, 119546152), by decide, hc, hj, Option.some.inj h⟩) (fun h => la_b h (fun hj h => ⟨(101715403, 36, 120586664), by decide, hc, hj, Option.some.inj h⟩) (fun h => la_b h (fun hj h => ⟨(101715403, 37, 121685544), by decide, hc, hj, Option.some.inj h⟩) (fun h => la_b h (fun hj h => ⟨(101715403, 39, 122683816), by decide, hc, hj, Option.some.inj h⟩) (fun h => la_b h (fun hj h => ⟨(101715403, 40, 123740458), by decide, hc, hj, Option.some.inj h⟩) (fun h => la_b h (fun hj h => ⟨(101715403, 41, 124781929), by decide, hc, hj, Option.some.inj h⟩) (fun h => la_b h (fun hj h => ⟨(101715403, 42, 125849640), by decide, hc, hj, Option.some.inj h⟩) (fun h => la_b h (fun hj h => ⟨(101715403, 43, 126898216), by decide, hc, hj, Option.some.inj h⟩) (fun h => la_b h (fun hj h => ⟨(101715403, 51, 127926441), by decide, hc, hj, Option.some.inj h⟩) (fun h => la_b h (fun hj h => ⟨(101715403, 52, 128976104), by decide, hc, hj, Option.some.inj h⟩) (fun h => by cases h))))))))))))))))))))))))))) (fun h => by cases h)))))
theorem la_lok : ∀ e ∈ la_l, (0 < e.1 ∧ 0 ≤ e.2.1) ∧ (cw_tg e.1 < 12 ∧ 0 < cw_tg e.1) ∧ cw_ce e.1 < 124 ∧ la_f e.1 e.2.1 = some e.2.2 := by decide +kernel
theorem la_get {m : cw_M} {c j v : Int} (hm : la_ok m) (hc : 0 < c) (hj : 0 ≤ j) (h : la_f c j = some v) : m c j = v := by
  obtain ⟨e, he, h1, h2, h3⟩ := la_mem h
  have h4 := (la_lok e he).1
  have e1 : c = e.1 := by omega
  have e2 : j = e.2.1 := by omega
  rw [e1, e2, hm.2 e he, h3]
theorem la_put {m : cw_M} {c j v : Int} (hm : la_ok m) (hc : 33554432 ≤ c) (h : la_f c j = none ∨ 12 ≤ cw_tg c) : la_ok (cw_put m c j v) := by
  refine ⟨by rw [show cw_put m c j v (-1) = m (-1) from cw_put_ne (by omega)]; exact hm.1, fun e he => ?_⟩
  obtain ⟨-, h2, -, h4⟩ := la_lok e he
  unfold cw_put
  rw [if_neg ?_]
  · exact hm.2 e he
  · rintro ⟨q1, q2⟩
    rcases h with h | h
    · rw [q1, q2, h] at h4; cases h4
    · rw [q1] at h2; omega
theorem la_new {m : cw_M} {t n : Int} (hm : la_ok m) (ht : 0 ≤ t ∧ t < 64) (hn : 0 ≤ n ∧ n < 16384) : la_ok (cw_new m t n) := by
  obtain ⟨g1, g2, g3, g4⟩ := cw_nc_ok (m := m) (by have := hm.1; omega) ht hn
  refine ⟨by rw [cw_new_0 g4]; have := hm.1; omega, fun e he => ?_⟩
  obtain ⟨h1, h2, h3, -⟩ := la_lok e he
  rw [cw_new_b (fun q => by rw [q, g3] at h3; have := hm.1; omega) (by omega) (by omega)]
  exact hm.2 e he
theorem la_cpy {m : cw_M} {s sp d dp n : Int} (hm : la_ok m) (hd : cw_tg d = 40) : la_ok (cw_cpy m s sp d dp n) := by
  have hd1 : d ≠ -1 := fun q => by rw [q] at hd; revert hd; decide
  refine ⟨by rw [show cw_cpy m s sp d dp n (-1) = m (-1) from cw_cpy_ne (fun q => hd1 q.symm)]; exact hm.1, fun e he => ?_⟩
  obtain ⟨-, h2, -, -⟩ := la_lok e he
  rw [cw_cpy_ne (fun q => by rw [q] at h2; omega)]
  exact hm.2 e he
