/-! All numbers -/
theorem tkx_in {lo n x : Nat} (h : tkR lo n = true) (h1 : lo ≤ x) (h2 : x < lo + n) : tkX x = true := by
  have := tkR_e n h (x - lo) (by omega)
  rw [Nat.add_sub_cancel' h1] at this
  exact this
theorem pkb_in {lo n x : Nat} (h : pkR lo n = true) (h1 : lo ≤ x) (h2 : x < lo + n) : pkB x = true := by
  have := pkR_e n h (x - lo) (by omega)
  rw [Nat.add_sub_cancel' h1] at this
  exact this
theorem TBall : TBok := by
  refine TBok_of (fun x h1 h2 => ?_) (fun b h1 h2 => ?_)
  · rcases Nat.lt_or_ge x 2502 with q | q0
    · exact tkx_in tt_0 (by omega) q
    rcases Nat.lt_or_ge x 5002 with q | q1
    · exact tkx_in tt_1 (by omega) q
    rcases Nat.lt_or_ge x 7502 with q | q2
    · exact tkx_in tt_2 (by omega) q
    rcases Nat.lt_or_ge x 10002 with q | q3
    · exact tkx_in tt_3 (by omega) q
    rcases Nat.lt_or_ge x 12502 with q | q4
    · exact tkx_in tt_4 (by omega) q
    rcases Nat.lt_or_ge x 15002 with q | q5
    · exact tkx_in tt_5 (by omega) q
    rcases Nat.lt_or_ge x 17502 with q | q6
    · exact tkx_in tt_6 (by omega) q
    rcases Nat.lt_or_ge x 20002 with q | q7
    · exact tkx_in tt_7 (by omega) q
    rcases Nat.lt_or_ge x 22502 with q | q8
    · exact tkx_in tt_8 (by omega) q
    rcases Nat.lt_or_ge x 25002 with q | q9
    · exact tkx_in tt_9 (by omega) q
    rcases Nat.lt_or_ge x 27502 with q | q10
    · exact tkx_in tt_10 (by omega) q
    rcases Nat.lt_or_ge x 30002 with q | q11
    · exact tkx_in tt_11 (by omega) q
    rcases Nat.lt_or_ge x 32502 with q | q12
    · exact tkx_in tt_12 (by omega) q
    rcases Nat.lt_or_ge x 35002 with q | q13
    · exact tkx_in tt_13 (by omega) q
    rcases Nat.lt_or_ge x 37502 with q | q14
    · exact tkx_in tt_14 (by omega) q
    rcases Nat.lt_or_ge x 40002 with q | q15
    · exact tkx_in tt_15 (by omega) q
    rcases Nat.lt_or_ge x 42502 with q | q16
    · exact tkx_in tt_16 (by omega) q
    rcases Nat.lt_or_ge x 45002 with q | q17
    · exact tkx_in tt_17 (by omega) q
    rcases Nat.lt_or_ge x 47502 with q | q18
    · exact tkx_in tt_18 (by omega) q
    rcases Nat.lt_or_ge x 50002 with q | q19
    · exact tkx_in tt_19 (by omega) q
    rcases Nat.lt_or_ge x 52502 with q | q20
    · exact tkx_in tt_20 (by omega) q
    rcases Nat.lt_or_ge x 55002 with q | q21
    · exact tkx_in tt_21 (by omega) q
    rcases Nat.lt_or_ge x 57502 with q | q22
    · exact tkx_in tt_22 (by omega) q
    rcases Nat.lt_or_ge x 60002 with q | q23
    · exact tkx_in tt_23 (by omega) q
    rcases Nat.lt_or_ge x 62502 with q | q24
    · exact tkx_in tt_24 (by omega) q
    rcases Nat.lt_or_ge x 65002 with q | q25
    · exact tkx_in tt_25 (by omega) q
    rcases Nat.lt_or_ge x 67502 with q | q26
    · exact tkx_in tt_26 (by omega) q
    rcases Nat.lt_or_ge x 70002 with q | q27
    · exact tkx_in tt_27 (by omega) q
    rcases Nat.lt_or_ge x 72502 with q | q28
    · exact tkx_in tt_28 (by omega) q
    rcases Nat.lt_or_ge x 75002 with q | q29
    · exact tkx_in tt_29 (by omega) q
    rcases Nat.lt_or_ge x 77502 with q | q30
    · exact tkx_in tt_30 (by omega) q
    rcases Nat.lt_or_ge x 80002 with q | q31
    · exact tkx_in tt_31 (by omega) q
    rcases Nat.lt_or_ge x 82502 with q | q32
    · exact tkx_in tt_32 (by omega) q
    rcases Nat.lt_or_ge x 85002 with q | q33
    · exact tkx_in tt_33 (by omega) q
    rcases Nat.lt_or_ge x 87502 with q | q34
    · exact tkx_in tt_34 (by omega) q
    rcases Nat.lt_or_ge x 90002 with q | q35
    · exact tkx_in tt_35 (by omega) q
    rcases Nat.lt_or_ge x 92502 with q | q36
    · exact tkx_in tt_36 (by omega) q
    rcases Nat.lt_or_ge x 95002 with q | q37
    · exact tkx_in tt_37 (by omega) q
    rcases Nat.lt_or_ge x 97502 with q | q38
    · exact tkx_in tt_38 (by omega) q
    exact tkx_in tt_39 (by omega) (by omega)
  · rcases Nat.lt_or_ge b 511 with q | q0
    · exact pkb_in pt_0 (by omega) q
    rcases Nat.lt_or_ge b 521 with q | q1
    · exact pkb_in pt_1 (by omega) q
    rcases Nat.lt_or_ge b 531 with q | q2
    · exact pkb_in pt_2 (by omega) q
    rcases Nat.lt_or_ge b 541 with q | q3
    · exact pkb_in pt_3 (by omega) q
    rcases Nat.lt_or_ge b 551 with q | q4
    · exact pkb_in pt_4 (by omega) q
    rcases Nat.lt_or_ge b 561 with q | q5
    · exact pkb_in pt_5 (by omega) q
    rcases Nat.lt_or_ge b 571 with q | q6
    · exact pkb_in pt_6 (by omega) q
    rcases Nat.lt_or_ge b 581 with q | q7
    · exact pkb_in pt_7 (by omega) q
    rcases Nat.lt_or_ge b 591 with q | q8
    · exact pkb_in pt_8 (by omega) q
    rcases Nat.lt_or_ge b 601 with q | q9
    · exact pkb_in pt_9 (by omega) q
    rcases Nat.lt_or_ge b 611 with q | q10
    · exact pkb_in pt_10 (by omega) q
    rcases Nat.lt_or_ge b 621 with q | q11
    · exact pkb_in pt_11 (by omega) q
    rcases Nat.lt_or_ge b 631 with q | q12
    · exact pkb_in pt_12 (by omega) q
    rcases Nat.lt_or_ge b 641 with q | q13
    · exact pkb_in pt_13 (by omega) q
    rcases Nat.lt_or_ge b 651 with q | q14
    · exact pkb_in pt_14 (by omega) q
    rcases Nat.lt_or_ge b 661 with q | q15
    · exact pkb_in pt_15 (by omega) q
    rcases Nat.lt_or_ge b 671 with q | q16
    · exact pkb_in pt_16 (by omega) q
    rcases Nat.lt_or_ge b 681 with q | q17
    · exact pkb_in pt_17 (by omega) q
    rcases Nat.lt_or_ge b 691 with q | q18
    · exact pkb_in pt_18 (by omega) q
    rcases Nat.lt_or_ge b 701 with q | q19
    · exact pkb_in pt_19 (by omega) q
    rcases Nat.lt_or_ge b 711 with q | q20
    · exact pkb_in pt_20 (by omega) q
    rcases Nat.lt_or_ge b 721 with q | q21
    · exact pkb_in pt_21 (by omega) q
    rcases Nat.lt_or_ge b 731 with q | q22
    · exact pkb_in pt_22 (by omega) q
    rcases Nat.lt_or_ge b 741 with q | q23
    · exact pkb_in pt_23 (by omega) q
    rcases Nat.lt_or_ge b 751 with q | q24
    · exact pkb_in pt_24 (by omega) q
    rcases Nat.lt_or_ge b 761 with q | q25
    · exact pkb_in pt_25 (by omega) q
    rcases Nat.lt_or_ge b 771 with q | q26
    · exact pkb_in pt_26 (by omega) q
    rcases Nat.lt_or_ge b 781 with q | q27
    · exact pkb_in pt_27 (by omega) q
    rcases Nat.lt_or_ge b 791 with q | q28
    · exact pkb_in pt_28 (by omega) q
    rcases Nat.lt_or_ge b 801 with q | q29
    · exact pkb_in pt_29 (by omega) q
    rcases Nat.lt_or_ge b 811 with q | q30
    · exact pkb_in pt_30 (by omega) q
    rcases Nat.lt_or_ge b 821 with q | q31
    · exact pkb_in pt_31 (by omega) q
    rcases Nat.lt_or_ge b 831 with q | q32
    · exact pkb_in pt_32 (by omega) q
    rcases Nat.lt_or_ge b 841 with q | q33
    · exact pkb_in pt_33 (by omega) q
    rcases Nat.lt_or_ge b 851 with q | q34
    · exact pkb_in pt_34 (by omega) q
    rcases Nat.lt_or_ge b 861 with q | q35
    · exact pkb_in pt_35 (by omega) q
    rcases Nat.lt_or_ge b 871 with q | q36
    · exact pkb_in pt_36 (by omega) q
    rcases Nat.lt_or_ge b 881 with q | q37
    · exact pkb_in pt_37 (by omega) q
    rcases Nat.lt_or_ge b 891 with q | q38
    · exact pkb_in pt_38 (by omega) q
    rcases Nat.lt_or_ge b 901 with q | q39
    · exact pkb_in pt_39 (by omega) q
    rcases Nat.lt_or_ge b 911 with q | q40
    · exact pkb_in pt_40 (by omega) q
    rcases Nat.lt_or_ge b 921 with q | q41
    · exact pkb_in pt_41 (by omega) q
    rcases Nat.lt_or_ge b 931 with q | q42
    · exact pkb_in pt_42 (by omega) q
    rcases Nat.lt_or_ge b 941 with q | q43
    · exact pkb_in pt_43 (by omega) q
    rcases Nat.lt_or_ge b 951 with q | q44
    · exact pkb_in pt_44 (by omega) q
    rcases Nat.lt_or_ge b 961 with q | q45
    · exact pkb_in pt_45 (by omega) q
    rcases Nat.lt_or_ge b 971 with q | q46
    · exact pkb_in pt_46 (by omega) q
    rcases Nat.lt_or_ge b 981 with q | q47
    · exact pkb_in pt_47 (by omega) q
    rcases Nat.lt_or_ge b 991 with q | q48
    · exact pkb_in pt_48 (by omega) q
    exact pkb_in pt_49 (by omega) (by omega)
