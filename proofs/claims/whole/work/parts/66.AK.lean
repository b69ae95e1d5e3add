theorem ordRef_n {fu c : Nat} {x1 x3 : Int32} : f_X11_ordersRefusal_n2 fu (wd c) x1 x3 = some 1 := by
  unfold f_X11_ordersRefusal_n2
  rw [c_isM]
  cases imn c x1 <;> rfl
def mostG (fu : Nat) (b_latestStatus : Int32) (y0_row : Nat → Int64) (y0_missing : Int32) (y0_many : Int32) (a_name : Nat → Int64) (a_courage : Nat → Int32) (a_weight : Nat → Int32) (a_medals : Nat → Int32) (a_stood : Nat → Int32) (a_fled : Nat → Int32) (a_liked : Nat → Int32) (a_count : Int32) (a_living : Int32) (a_pride : Int32) (a_quota : Int32) (a_melted : Int32) (a_lost : Int32) (f_sizes : Nat → Int32) (f_dangers : Int32) (n_name : Nat → Int64) (n_courage : Nat → Int32) (n_weight : Nat → Int32) (n_medals : Nat → Int32) (n_stood : Nat → Int32) (n_fled : Nat → Int32) (n_liked : Nat → Int32) (n_votes : Nat → Int32) (n_count : Int32) (n_living : Int32) (n_pride : Int32) (n_quota : Int32) (n_melted : Int32) (n_lost : Int32) (x1 : Int32) (x3 : Int32) : Option (Int32 × Int32 × (Nat → Int32) × Int32 × (Nat → Int64) × (Nat → Int32) × (Nat → Int32) × (Nat → Int32) × (Nat → Int32) × (Nat → Int32) × (Nat → Int32) × (Nat → Int32) × Int32 × Int32 × Int32 × Int32 × Int32 × Int32) := (f_X11_ordersRefusal fu y0_row y0_missing y0_many a_count a_living x1 x3).bind fun z_36 => (if z_36 = 0 then (f_X4_look fu f_sizes f_dangers n_name n_courage n_weight n_medals n_stood n_fled n_liked n_count n_living n_pride n_quota n_melted n_lost a_name a_courage a_weight a_medals a_stood a_fled a_liked a_count a_living a_pride a_quota a_melted a_lost y0_row y0_many x3).bind fun z_38 => (f_X4_mostFor fu z_38.1 z_38.2.1 z_38.2.2.2.1 z_38.2.2.2.2.1 z_38.2.2.2.2.2.1 z_38.2.2.2.2.2.2.2.2.1 n_votes z_38.2.2.2.2.2.2.2.2.2.1 z_38.2.2.2.2.2.2.2.2.2.2.1 z_38.2.2.2.2.2.2.2.2.2.2.2.1 x1).bind fun z_39 => (f_X11_answer fu b_latestStatus z_39.1).bind fun z_40 => some (z_40.1, z_40.2, z_38.1, z_38.2.1, z_38.2.2.1, z_38.2.2.2.1, z_38.2.2.2.2.1, z_39.2.1, z_38.2.2.2.2.2.2.1, z_38.2.2.2.2.2.2.2.1, z_38.2.2.2.2.2.2.2.2.1, z_39.2.2, z_38.2.2.2.2.2.2.2.2.2.1, z_38.2.2.2.2.2.2.2.2.2.2.1, z_38.2.2.2.2.2.2.2.2.2.2.2.1, z_38.2.2.2.2.2.2.2.2.2.2.2.2.1, z_38.2.2.2.2.2.2.2.2.2.2.2.2.2.1, z_38.2.2.2.2.2.2.2.2.2.2.2.2.2.2) else (f_X11_refuse fu b_latestStatus z_36).bind fun z_41 => some (z_41.1, z_41.2, f_sizes, f_dangers, n_name, n_courage, n_weight, n_medals, n_stood, n_fled, n_liked, n_votes, n_count, n_living, n_pride, n_quota, n_melted, n_lost))
theorem most_0 {fu : Nat} {b_latestStatus : Int32} {y0_row : Nat → Int64} {y0_missing : Int32} {y0_many : Int32} {y1_row : Nat → Int64} {y1_missing : Int32} {y1_many : Int32} {y2_row : Nat → Int64} {y2_missing : Int32} {y2_many : Int32} {y3_row : Nat → Int64} {y3_missing : Int32} {y3_many : Int32} {a_name : Nat → Int64} {a_courage : Nat → Int32} {a_weight : Nat → Int32} {a_medals : Nat → Int32} {a_stood : Nat → Int32} {a_fled : Nat → Int32} {a_liked : Nat → Int32} {a_count : Int32} {a_living : Int32} {a_pride : Int32} {a_quota : Int32} {a_melted : Int32} {a_lost : Int32} {f_sizes : Nat → Int32} {f_dangers : Int32} {n_name : Nat → Int64} {n_courage : Nat → Int32} {n_weight : Nat → Int32} {n_medals : Nat → Int32} {n_stood : Nat → Int32} {n_fled : Nat → Int32} {n_liked : Nat → Int32} {n_votes : Nat → Int32} {n_count : Int32} {n_living : Int32} {n_pride : Int32} {n_quota : Int32} {n_melted : Int32} {n_lost : Int32} {x1 : Int32} {x3 : Int32} : f_X11_most fu b_latestStatus y0_row y0_missing y0_many y1_row y1_missing y1_many y2_row y2_missing y2_many y3_row y3_missing y3_many a_name a_courage a_weight a_medals a_stood a_fled a_liked a_count a_living a_pride a_quota a_melted a_lost f_sizes f_dangers n_name n_courage n_weight n_medals n_stood n_fled n_liked n_votes n_count n_living n_pride n_quota n_melted n_lost x1 (wd 0) x3 = mostG fu b_latestStatus y0_row y0_missing y0_many a_name a_courage a_weight a_medals a_stood a_fled a_liked a_count a_living a_pride a_quota a_melted a_lost f_sizes f_dangers n_name n_courage n_weight n_medals n_stood n_fled n_liked n_votes n_count n_living n_pride n_quota n_melted n_lost x1 x3 := by
  unfold f_X11_most mostG
  rw [if_pos (show wd 0 = 0 by decide)]
theorem most_1 {fu : Nat} {b_latestStatus : Int32} {y0_row : Nat → Int64} {y0_missing : Int32} {y0_many : Int32} {y1_row : Nat → Int64} {y1_missing : Int32} {y1_many : Int32} {y2_row : Nat → Int64} {y2_missing : Int32} {y2_many : Int32} {y3_row : Nat → Int64} {y3_missing : Int32} {y3_many : Int32} {a_name : Nat → Int64} {a_courage : Nat → Int32} {a_weight : Nat → Int32} {a_medals : Nat → Int32} {a_stood : Nat → Int32} {a_fled : Nat → Int32} {a_liked : Nat → Int32} {a_count : Int32} {a_living : Int32} {a_pride : Int32} {a_quota : Int32} {a_melted : Int32} {a_lost : Int32} {f_sizes : Nat → Int32} {f_dangers : Int32} {n_name : Nat → Int64} {n_courage : Nat → Int32} {n_weight : Nat → Int32} {n_medals : Nat → Int32} {n_stood : Nat → Int32} {n_fled : Nat → Int32} {n_liked : Nat → Int32} {n_votes : Nat → Int32} {n_count : Int32} {n_living : Int32} {n_pride : Int32} {n_quota : Int32} {n_melted : Int32} {n_lost : Int32} {x1 : Int32} {x3 : Int32} : f_X11_most fu b_latestStatus y0_row y0_missing y0_many y1_row y1_missing y1_many y2_row y2_missing y2_many y3_row y3_missing y3_many a_name a_courage a_weight a_medals a_stood a_fled a_liked a_count a_living a_pride a_quota a_melted a_lost f_sizes f_dangers n_name n_courage n_weight n_medals n_stood n_fled n_liked n_votes n_count n_living n_pride n_quota n_melted n_lost x1 (wd 1) x3 = mostG fu b_latestStatus y1_row y1_missing y1_many a_name a_courage a_weight a_medals a_stood a_fled a_liked a_count a_living a_pride a_quota a_melted a_lost f_sizes f_dangers n_name n_courage n_weight n_medals n_stood n_fled n_liked n_votes n_count n_living n_pride n_quota n_melted n_lost x1 x3 := by
  unfold f_X11_most mostG
  rw [if_neg (show ¬ wd 1 = 0 by decide), if_pos (show wd 1 = 1 by decide)]
theorem most_2 {fu : Nat} {b_latestStatus : Int32} {y0_row : Nat → Int64} {y0_missing : Int32} {y0_many : Int32} {y1_row : Nat → Int64} {y1_missing : Int32} {y1_many : Int32} {y2_row : Nat → Int64} {y2_missing : Int32} {y2_many : Int32} {y3_row : Nat → Int64} {y3_missing : Int32} {y3_many : Int32} {a_name : Nat → Int64} {a_courage : Nat → Int32} {a_weight : Nat → Int32} {a_medals : Nat → Int32} {a_stood : Nat → Int32} {a_fled : Nat → Int32} {a_liked : Nat → Int32} {a_count : Int32} {a_living : Int32} {a_pride : Int32} {a_quota : Int32} {a_melted : Int32} {a_lost : Int32} {f_sizes : Nat → Int32} {f_dangers : Int32} {n_name : Nat → Int64} {n_courage : Nat → Int32} {n_weight : Nat → Int32} {n_medals : Nat → Int32} {n_stood : Nat → Int32} {n_fled : Nat → Int32} {n_liked : Nat → Int32} {n_votes : Nat → Int32} {n_count : Int32} {n_living : Int32} {n_pride : Int32} {n_quota : Int32} {n_melted : Int32} {n_lost : Int32} {x1 : Int32} {x3 : Int32} : f_X11_most fu b_latestStatus y0_row y0_missing y0_many y1_row y1_missing y1_many y2_row y2_missing y2_many y3_row y3_missing y3_many a_name a_courage a_weight a_medals a_stood a_fled a_liked a_count a_living a_pride a_quota a_melted a_lost f_sizes f_dangers n_name n_courage n_weight n_medals n_stood n_fled n_liked n_votes n_count n_living n_pride n_quota n_melted n_lost x1 (wd 2) x3 = mostG fu b_latestStatus y2_row y2_missing y2_many a_name a_courage a_weight a_medals a_stood a_fled a_liked a_count a_living a_pride a_quota a_melted a_lost f_sizes f_dangers n_name n_courage n_weight n_medals n_stood n_fled n_liked n_votes n_count n_living n_pride n_quota n_melted n_lost x1 x3 := by
  unfold f_X11_most mostG
  rw [if_neg (show ¬ wd 2 = 0 by decide), if_neg (show ¬ wd 2 = 1 by decide), if_pos (show wd 2 = 2 by decide)]
theorem most_3 {fu : Nat} {b_latestStatus : Int32} {y0_row : Nat → Int64} {y0_missing : Int32} {y0_many : Int32} {y1_row : Nat → Int64} {y1_missing : Int32} {y1_many : Int32} {y2_row : Nat → Int64} {y2_missing : Int32} {y2_many : Int32} {y3_row : Nat → Int64} {y3_missing : Int32} {y3_many : Int32} {a_name : Nat → Int64} {a_courage : Nat → Int32} {a_weight : Nat → Int32} {a_medals : Nat → Int32} {a_stood : Nat → Int32} {a_fled : Nat → Int32} {a_liked : Nat → Int32} {a_count : Int32} {a_living : Int32} {a_pride : Int32} {a_quota : Int32} {a_melted : Int32} {a_lost : Int32} {f_sizes : Nat → Int32} {f_dangers : Int32} {n_name : Nat → Int64} {n_courage : Nat → Int32} {n_weight : Nat → Int32} {n_medals : Nat → Int32} {n_stood : Nat → Int32} {n_fled : Nat → Int32} {n_liked : Nat → Int32} {n_votes : Nat → Int32} {n_count : Int32} {n_living : Int32} {n_pride : Int32} {n_quota : Int32} {n_melted : Int32} {n_lost : Int32} {x1 : Int32} {x3 : Int32} : f_X11_most fu b_latestStatus y0_row y0_missing y0_many y1_row y1_missing y1_many y2_row y2_missing y2_many y3_row y3_missing y3_many a_name a_courage a_weight a_medals a_stood a_fled a_liked a_count a_living a_pride a_quota a_melted a_lost f_sizes f_dangers n_name n_courage n_weight n_medals n_stood n_fled n_liked n_votes n_count n_living n_pride n_quota n_melted n_lost x1 (wd 3) x3 = mostG fu b_latestStatus y3_row y3_missing y3_many a_name a_courage a_weight a_medals a_stood a_fled a_liked a_count a_living a_pride a_quota a_melted a_lost f_sizes f_dangers n_name n_courage n_weight n_medals n_stood n_fled n_liked n_votes n_count n_living n_pride n_quota n_melted n_lost x1 x3 := by
  unfold f_X11_most mostG
  rw [if_neg (show ¬ wd 3 = 0 by decide), if_neg (show ¬ wd 3 = 1 by decide), if_neg (show ¬ wd 3 = 2 by decide), if_pos (show wd 3 = 3 by decide)]
theorem most_n {fu c : Nat} {b_latestStatus : Int32} {y0_row : Nat → Int64} {y0_missing : Int32} {y0_many : Int32} {y1_row : Nat → Int64} {y1_missing : Int32} {y1_many : Int32} {y2_row : Nat → Int64} {y2_missing : Int32} {y2_many : Int32} {y3_row : Nat → Int64} {y3_missing : Int32} {y3_many : Int32} {a_name : Nat → Int64} {a_courage : Nat → Int32} {a_weight : Nat → Int32} {a_medals : Nat → Int32} {a_stood : Nat → Int32} {a_fled : Nat → Int32} {a_liked : Nat → Int32} {a_count : Int32} {a_living : Int32} {a_pride : Int32} {a_quota : Int32} {a_melted : Int32} {a_lost : Int32} {f_sizes : Nat → Int32} {f_dangers : Int32} {n_name : Nat → Int64} {n_courage : Nat → Int32} {n_weight : Nat → Int32} {n_medals : Nat → Int32} {n_stood : Nat → Int32} {n_fled : Nat → Int32} {n_liked : Nat → Int32} {n_votes : Nat → Int32} {n_count : Int32} {n_living : Int32} {n_pride : Int32} {n_quota : Int32} {n_melted : Int32} {n_lost : Int32} {x1 : Int32} {x3 : Int32} {x2 : Int32} (hcnt : a_count = wd c) (h : ¬ x2 = wd 0 ∧ ¬ x2 = wd 1 ∧ ¬ x2 = wd 2 ∧ ¬ x2 = wd 3) : f_X11_most fu b_latestStatus y0_row y0_missing y0_many y1_row y1_missing y1_many y2_row y2_missing y2_many y3_row y3_missing y3_many a_name a_courage a_weight a_medals a_stood a_fled a_liked a_count a_living a_pride a_quota a_melted a_lost f_sizes f_dangers n_name n_courage n_weight n_medals n_stood n_fled n_liked n_votes n_count n_living n_pride n_quota n_melted n_lost x1 x2 x3 = some (nn, wd 1, f_sizes, f_dangers, n_name, n_courage, n_weight, n_medals, n_stood, n_fled, n_liked, n_votes, n_count, n_living, n_pride, n_quota, n_melted, n_lost) := by
  subst hcnt
  unfold f_X11_most
  rw [if_neg (show ¬ x2 = 0 from h.1), if_neg (show ¬ x2 = 1 from h.2.1), if_neg (show ¬ x2 = 2 from h.2.2.1), if_neg (show ¬ x2 = 3 from h.2.2.2), bind_e ordRef_n]
  rfl
def facesG (fu : Nat) (b_latestStatus : Int32) (y0_row : Nat → Int64) (y0_missing : Int32) (y0_many : Int32) (a_name : Nat → Int64) (a_courage : Nat → Int32) (a_weight : Nat → Int32) (a_medals : Nat → Int32) (a_stood : Nat → Int32) (a_fled : Nat → Int32) (a_liked : Nat → Int32) (a_count : Int32) (a_living : Int32) (a_pride : Int32) (a_quota : Int32) (a_melted : Int32) (a_lost : Int32) (f_sizes : Nat → Int32) (f_dangers : Int32) (n_name : Nat → Int64) (n_courage : Nat → Int32) (n_weight : Nat → Int32) (n_medals : Nat → Int32) (n_stood : Nat → Int32) (n_fled : Nat → Int32) (n_liked : Nat → Int32) (n_votes : Nat → Int32) (n_count : Int32) (n_living : Int32) (n_pride : Int32) (n_quota : Int32) (n_melted : Int32) (n_lost : Int32) (x1 : Int32) (x3 : Int32) (x4 : Int32) : Option (Int32 × Int32 × (Nat → Int32) × Int32 × (Nat → Int64) × (Nat → Int32) × (Nat → Int32) × (Nat → Int32) × (Nat → Int32) × (Nat → Int32) × (Nat → Int32) × (Nat → Int32) × Int32 × Int32 × Int32 × Int32 × Int32 × Int32) := (f_X11_ordersRefusal fu y0_row y0_missing y0_many a_count a_living x1 x3).bind fun z_61 => (if z_61 = 1 then (f_X11_refuse fu b_latestStatus 1).bind fun z_63 => some (z_63.1, z_63.2, f_sizes, f_dangers, n_name, n_courage, n_weight, n_medals, n_stood, n_fled, n_liked, n_votes, n_count, n_living, n_pride, n_quota, n_melted, n_lost) else (f_X11_within fu x4 0 (x3 - 1)).bind fun z_64 => (if z_64 = 0 then (f_X11_refuse fu b_latestStatus 1).bind fun z_71 => some (z_71.1, z_71.2, f_sizes, f_dangers, n_name, n_courage, n_weight, n_medals, n_stood, n_fled, n_liked, n_votes, n_count, n_living, n_pride, n_quota, n_melted, n_lost) else (if z_61 = 0 then (f_X4_look fu f_sizes f_dangers n_name n_courage n_weight n_medals n_stood n_fled n_liked n_count n_living n_pride n_quota n_melted n_lost a_name a_courage a_weight a_medals a_stood a_fled a_liked a_count a_living a_pride a_quota a_melted a_lost y0_row y0_many x3).bind fun z_67 => (f_X4_facerOf fu z_67.1 z_67.2.1 z_67.2.2.2.1 z_67.2.2.2.2.1 z_67.2.2.2.2.2.1 z_67.2.2.2.2.2.2.2.2.1 n_votes z_67.2.2.2.2.2.2.2.2.2.1 z_67.2.2.2.2.2.2.2.2.2.2.1 z_67.2.2.2.2.2.2.2.2.2.2.2.1 x1 x4).bind fun z_68 => (f_X11_answer fu b_latestStatus z_68.1).bind fun z_69 => some (z_69.1, z_69.2, z_67.1, z_67.2.1, z_67.2.2.1, z_67.2.2.2.1, z_67.2.2.2.2.1, z_68.2.1, z_67.2.2.2.2.2.2.1, z_67.2.2.2.2.2.2.2.1, z_67.2.2.2.2.2.2.2.2.1, z_68.2.2, z_67.2.2.2.2.2.2.2.2.2.1, z_67.2.2.2.2.2.2.2.2.2.2.1, z_67.2.2.2.2.2.2.2.2.2.2.2.1, z_67.2.2.2.2.2.2.2.2.2.2.2.2.1, z_67.2.2.2.2.2.2.2.2.2.2.2.2.2.1, z_67.2.2.2.2.2.2.2.2.2.2.2.2.2.2) else (f_X11_refuse fu b_latestStatus z_61).bind fun z_70 => some (z_70.1, z_70.2, f_sizes, f_dangers, n_name, n_courage, n_weight, n_medals, n_stood, n_fled, n_liked, n_votes, n_count, n_living, n_pride, n_quota, n_melted, n_lost))))
theorem facesAt_0 {fu : Nat} {b_latestStatus : Int32} {y0_row : Nat → Int64} {y0_missing : Int32} {y0_many : Int32} {y1_row : Nat → Int64} {y1_missing : Int32} {y1_many : Int32} {y2_row : Nat → Int64} {y2_missing : Int32} {y2_many : Int32} {y3_row : Nat → Int64} {y3_missing : Int32} {y3_many : Int32} {a_name : Nat → Int64} {a_courage : Nat → Int32} {a_weight : Nat → Int32} {a_medals : Nat → Int32} {a_stood : Nat → Int32} {a_fled : Nat → Int32} {a_liked : Nat → Int32} {a_count : Int32} {a_living : Int32} {a_pride : Int32} {a_quota : Int32} {a_melted : Int32} {a_lost : Int32} {f_sizes : Nat → Int32} {f_dangers : Int32} {n_name : Nat → Int64} {n_courage : Nat → Int32} {n_weight : Nat → Int32} {n_medals : Nat → Int32} {n_stood : Nat → Int32} {n_fled : Nat → Int32} {n_liked : Nat → Int32} {n_votes : Nat → Int32} {n_count : Int32} {n_living : Int32} {n_pride : Int32} {n_quota : Int32} {n_melted : Int32} {n_lost : Int32} {x1 : Int32} {x3 : Int32} {x4 : Int32} : f_X11_facesAt fu b_latestStatus y0_row y0_missing y0_many y1_row y1_missing y1_many y2_row y2_missing y2_many y3_row y3_missing y3_many a_name a_courage a_weight a_medals a_stood a_fled a_liked a_count a_living a_pride a_quota a_melted a_lost f_sizes f_dangers n_name n_courage n_weight n_medals n_stood n_fled n_liked n_votes n_count n_living n_pride n_quota n_melted n_lost x1 (wd 0) x3 x4 = facesG fu b_latestStatus y0_row y0_missing y0_many a_name a_courage a_weight a_medals a_stood a_fled a_liked a_count a_living a_pride a_quota a_melted a_lost f_sizes f_dangers n_name n_courage n_weight n_medals n_stood n_fled n_liked n_votes n_count n_living n_pride n_quota n_melted n_lost x1 x3 x4 := by
  unfold f_X11_facesAt facesG
  rw [if_pos (show wd 0 = 0 by decide)]
theorem facesAt_1 {fu : Nat} {b_latestStatus : Int32} {y0_row : Nat → Int64} {y0_missing : Int32} {y0_many : Int32} {y1_row : Nat → Int64} {y1_missing : Int32} {y1_many : Int32} {y2_row : Nat → Int64} {y2_missing : Int32} {y2_many : Int32} {y3_row : Nat → Int64} {y3_missing : Int32} {y3_many : Int32} {a_name : Nat → Int64} {a_courage : Nat → Int32} {a_weight : Nat → Int32} {a_medals : Nat → Int32} {a_stood : Nat → Int32} {a_fled : Nat → Int32} {a_liked : Nat → Int32} {a_count : Int32} {a_living : Int32} {a_pride : Int32} {a_quota : Int32} {a_melted : Int32} {a_lost : Int32} {f_sizes : Nat → Int32} {f_dangers : Int32} {n_name : Nat → Int64} {n_courage : Nat → Int32} {n_weight : Nat → Int32} {n_medals : Nat → Int32} {n_stood : Nat → Int32} {n_fled : Nat → Int32} {n_liked : Nat → Int32} {n_votes : Nat → Int32} {n_count : Int32} {n_living : Int32} {n_pride : Int32} {n_quota : Int32} {n_melted : Int32} {n_lost : Int32} {x1 : Int32} {x3 : Int32} {x4 : Int32} : f_X11_facesAt fu b_latestStatus y0_row y0_missing y0_many y1_row y1_missing y1_many y2_row y2_missing y2_many y3_row y3_missing y3_many a_name a_courage a_weight a_medals a_stood a_fled a_liked a_count a_living a_pride a_quota a_melted a_lost f_sizes f_dangers n_name n_courage n_weight n_medals n_stood n_fled n_liked n_votes n_count n_living n_pride n_quota n_melted n_lost x1 (wd 1) x3 x4 = facesG fu b_latestStatus y1_row y1_missing y1_many a_name a_courage a_weight a_medals a_stood a_fled a_liked a_count a_living a_pride a_quota a_melted a_lost f_sizes f_dangers n_name n_courage n_weight n_medals n_stood n_fled n_liked n_votes n_count n_living n_pride n_quota n_melted n_lost x1 x3 x4 := by
  unfold f_X11_facesAt facesG
  rw [if_neg (show ¬ wd 1 = 0 by decide), if_pos (show wd 1 = 1 by decide)]
theorem facesAt_2 {fu : Nat} {b_latestStatus : Int32} {y0_row : Nat → Int64} {y0_missing : Int32} {y0_many : Int32} {y1_row : Nat → Int64} {y1_missing : Int32} {y1_many : Int32} {y2_row : Nat → Int64} {y2_missing : Int32} {y2_many : Int32} {y3_row : Nat → Int64} {y3_missing : Int32} {y3_many : Int32} {a_name : Nat → Int64} {a_courage : Nat → Int32} {a_weight : Nat → Int32} {a_medals : Nat → Int32} {a_stood : Nat → Int32} {a_fled : Nat → Int32} {a_liked : Nat → Int32} {a_count : Int32} {a_living : Int32} {a_pride : Int32} {a_quota : Int32} {a_melted : Int32} {a_lost : Int32} {f_sizes : Nat → Int32} {f_dangers : Int32} {n_name : Nat → Int64} {n_courage : Nat → Int32} {n_weight : Nat → Int32} {n_medals : Nat → Int32} {n_stood : Nat → Int32} {n_fled : Nat → Int32} {n_liked : Nat → Int32} {n_votes : Nat → Int32} {n_count : Int32} {n_living : Int32} {n_pride : Int32} {n_quota : Int32} {n_melted : Int32} {n_lost : Int32} {x1 : Int32} {x3 : Int32} {x4 : Int32} : f_X11_facesAt fu b_latestStatus y0_row y0_missing y0_many y1_row y1_missing y1_many y2_row y2_missing y2_many y3_row y3_missing y3_many a_name a_courage a_weight a_medals a_stood a_fled a_liked a_count a_living a_pride a_quota a_melted a_lost f_sizes f_dangers n_name n_courage n_weight n_medals n_stood n_fled n_liked n_votes n_count n_living n_pride n_quota n_melted n_lost x1 (wd 2) x3 x4 = facesG fu b_latestStatus y2_row y2_missing y2_many a_name a_courage a_weight a_medals a_stood a_fled a_liked a_count a_living a_pride a_quota a_melted a_lost f_sizes f_dangers n_name n_courage n_weight n_medals n_stood n_fled n_liked n_votes n_count n_living n_pride n_quota n_melted n_lost x1 x3 x4 := by
  unfold f_X11_facesAt facesG
  rw [if_neg (show ¬ wd 2 = 0 by decide), if_neg (show ¬ wd 2 = 1 by decide), if_pos (show wd 2 = 2 by decide)]
theorem facesAt_3 {fu : Nat} {b_latestStatus : Int32} {y0_row : Nat → Int64} {y0_missing : Int32} {y0_many : Int32} {y1_row : Nat → Int64} {y1_missing : Int32} {y1_many : Int32} {y2_row : Nat → Int64} {y2_missing : Int32} {y2_many : Int32} {y3_row : Nat → Int64} {y3_missing : Int32} {y3_many : Int32} {a_name : Nat → Int64} {a_courage : Nat → Int32} {a_weight : Nat → Int32} {a_medals : Nat → Int32} {a_stood : Nat → Int32} {a_fled : Nat → Int32} {a_liked : Nat → Int32} {a_count : Int32} {a_living : Int32} {a_pride : Int32} {a_quota : Int32} {a_melted : Int32} {a_lost : Int32} {f_sizes : Nat → Int32} {f_dangers : Int32} {n_name : Nat → Int64} {n_courage : Nat → Int32} {n_weight : Nat → Int32} {n_medals : Nat → Int32} {n_stood : Nat → Int32} {n_fled : Nat → Int32} {n_liked : Nat → Int32} {n_votes : Nat → Int32} {n_count : Int32} {n_living : Int32} {n_pride : Int32} {n_quota : Int32} {n_melted : Int32} {n_lost : Int32} {x1 : Int32} {x3 : Int32} {x4 : Int32} : f_X11_facesAt fu b_latestStatus y0_row y0_missing y0_many y1_row y1_missing y1_many y2_row y2_missing y2_many y3_row y3_missing y3_many a_name a_courage a_weight a_medals a_stood a_fled a_liked a_count a_living a_pride a_quota a_melted a_lost f_sizes f_dangers n_name n_courage n_weight n_medals n_stood n_fled n_liked n_votes n_count n_living n_pride n_quota n_melted n_lost x1 (wd 3) x3 x4 = facesG fu b_latestStatus y3_row y3_missing y3_many a_name a_courage a_weight a_medals a_stood a_fled a_liked a_count a_living a_pride a_quota a_melted a_lost f_sizes f_dangers n_name n_courage n_weight n_medals n_stood n_fled n_liked n_votes n_count n_living n_pride n_quota n_melted n_lost x1 x3 x4 := by
  unfold f_X11_facesAt facesG
  rw [if_neg (show ¬ wd 3 = 0 by decide), if_neg (show ¬ wd 3 = 1 by decide), if_neg (show ¬ wd 3 = 2 by decide), if_pos (show wd 3 = 3 by decide)]
theorem facesAt_n {fu c : Nat} {b_latestStatus : Int32} {y0_row : Nat → Int64} {y0_missing : Int32} {y0_many : Int32} {y1_row : Nat → Int64} {y1_missing : Int32} {y1_many : Int32} {y2_row : Nat → Int64} {y2_missing : Int32} {y2_many : Int32} {y3_row : Nat → Int64} {y3_missing : Int32} {y3_many : Int32} {a_name : Nat → Int64} {a_courage : Nat → Int32} {a_weight : Nat → Int32} {a_medals : Nat → Int32} {a_stood : Nat → Int32} {a_fled : Nat → Int32} {a_liked : Nat → Int32} {a_count : Int32} {a_living : Int32} {a_pride : Int32} {a_quota : Int32} {a_melted : Int32} {a_lost : Int32} {f_sizes : Nat → Int32} {f_dangers : Int32} {n_name : Nat → Int64} {n_courage : Nat → Int32} {n_weight : Nat → Int32} {n_medals : Nat → Int32} {n_stood : Nat → Int32} {n_fled : Nat → Int32} {n_liked : Nat → Int32} {n_votes : Nat → Int32} {n_count : Int32} {n_living : Int32} {n_pride : Int32} {n_quota : Int32} {n_melted : Int32} {n_lost : Int32} {x1 : Int32} {x3 : Int32} {x4 : Int32} {x2 : Int32} (hcnt : a_count = wd c) (h : ¬ x2 = wd 0 ∧ ¬ x2 = wd 1 ∧ ¬ x2 = wd 2 ∧ ¬ x2 = wd 3) : f_X11_facesAt fu b_latestStatus y0_row y0_missing y0_many y1_row y1_missing y1_many y2_row y2_missing y2_many y3_row y3_missing y3_many a_name a_courage a_weight a_medals a_stood a_fled a_liked a_count a_living a_pride a_quota a_melted a_lost f_sizes f_dangers n_name n_courage n_weight n_medals n_stood n_fled n_liked n_votes n_count n_living n_pride n_quota n_melted n_lost x1 x2 x3 x4 = some (nn, wd 1, f_sizes, f_dangers, n_name, n_courage, n_weight, n_medals, n_stood, n_fled, n_liked, n_votes, n_count, n_living, n_pride, n_quota, n_melted, n_lost) := by
  subst hcnt
  unfold f_X11_facesAt
  rw [if_neg (show ¬ x2 = 0 from h.1), if_neg (show ¬ x2 = 1 from h.2.1), if_neg (show ¬ x2 = 2 from h.2.2.1), if_neg (show ¬ x2 = 3 from h.2.2.2), bind_e ordRef_n]
  rfl
section
variable {fu c : Nat} {at_ cou wei med sto fle lik vot : Nat → Int32} {cnt liv pri quo mel los st st' b0 : Int32}
theorem t_oref {t : Nat} {y : tX8} {srt tm : Nat → Int32} {tr : Nat → Int64} {x1 x3 : Int32} (hc : at_ 0 = wd c) (h8 : c ≤ 8) (ht : t < 4) (hy : RY y (srt t) (tm t) (shJ (60 * t) tr)) (hf : 1000 ≤ fu) : ∃ j w, j ≤ 7 ∧ f_X11_ordersRefusal fu (vX8_row y) (vX8_missing y) (vX8_many y) (wd c) (wd (mask (alv at_) c)) x1 x3 = some (wd j) ∧ f_X12_isMan fu at_ x1 = some (i01 w) ∧ (w = false → j = 1) ∧ (w = true → ∃ m, m < c ∧ x1 = wd m ∧ ((j = 1 ∧ f_X12_wrongSizes fu tm tr (wd t) x3 (wd 1) = some (wd 1)) ∨ ∃ k v, 1 ≤ k ∧ k ≤ 4 ∧ x3 = wd k ∧ v ≤ 5 ∧ f_X12_wrongSizes fu tm tr (wd t) x3 (wd 1) = some (wd v) ∧ ((v ≠ 0 ∧ v ≠ 1 ∧ j = v) ∨ (v = 0 ∧ ((j = 7 ∧ alv at_ m = false) ∨ (j = 0 ∧ alv at_ m = true ∧ ∃ n, n ≤ 60 ∧ k ≤ n ∧ vX8_many y = wd n ∧ ∀ i, i < k → vX8_row y i = shJ (60 * t) tr i)))))) := by
  cases q0 : imn c x1
  · refine ⟨1, false, by omega, ?_, ?_, fun _ => rfl, fun h => by cases h⟩
    · unfold f_X11_ordersRefusal
      rw [bind_e c_isM, q0]; rfl
    · rw [r_isM hc, q0]
  obtain ⟨m, hm, rfl⟩ := imn_ex (by omega) q0
  have e2 : f_X12_isMan fu at_ (wd m) = some (i01 true) := by rw [r_isM hc, q0]
  cases q4 : wn 1 4 x3
  · refine ⟨1, true, by omega, ?_, e2, fun h => (by cases h), fun _ => ⟨m, hm, rfl, Or.inl ⟨rfl, r_wsz1 ht (by omega) q4⟩⟩⟩
    unfold f_X11_ordersRefusal
    rw [bind_e c_isM, q0, if_neg (show ¬ i01 true = 0 by decide), show (1 : Int32) = wd 1 from rfl, show (4 : Int32) = wd 4 from rfl, bind_e c_within, q4]
    rfl
  · obtain ⟨k, hk1, hk, rfl⟩ := wn_ex (by omega) (by omega) q4
    have hj : f_X11_ordersRefusal fu (vX8_row y) (vX8_missing y) (vX8_many y) (wd c) (wd (mask (alv at_) c)) (wd m) (wd k) = (f_X8_sizesRefusal fu (vX8_row y) (vX8_missing y) (vX8_many y) (wd k) (wd 1)).bind fun z_18 => (if z_18 = wd 0 then (if alv at_ m then some (wd 0) else some (wd 7)) else some z_18) := by
      unfold f_X11_ordersRefusal
      rw [bind_e c_isM, q0, if_neg (show ¬ i01 true = 0 by decide), show (1 : Int32) = wd 1 from rfl, show (4 : Int32) = wd 4 from rfl, bind_e c_within, q4, if_neg (show ¬ i01 true = 0 by decide)]
      congr 1
      funext z
      rw [bind_e (c_lives hm h8)]
      by_cases hz : z = wd 0
      · rw [if_pos (show z = 0 from hz), if_pos hz]
        cases alv at_ m <;> rfl
      · rw [if_neg (show ¬ z = 0 from hz), if_neg hz]
    rcases hy with ⟨em, ea⟩ | ⟨em, n, s, hn, hs, ea, en, es, es', hr⟩
    · refine ⟨2, true, by omega, ?_, e2, fun h => (by cases h), fun _ => ⟨m, hm, rfl, Or.inr ⟨k, 2, hk1, hk, rfl, by omega, r_wsz2 ht (by omega) q4 ea, Or.inl ⟨by omega, by omega, rfl⟩⟩⟩⟩
      rw [hj]
      have : f_X8_sizesRefusal fu (vX8_row y) (vX8_missing y) (vX8_many y) (wd k) (wd 1) = some (wd 2) := by
        unfold f_X8_sizesRefusal
        rw [em, if_neg (by decide)]
        rfl
      rw [bind_e this, if_neg (by decide)]
    · have hc1 := c_wsz (row := vX8_row y) hn hk hf
      have hc2 : f_X12_wrongSizes fu tm tr (wd t) (wd k) (wd 1) = some (wd (wsz n k (shJ (60 * t) tr))) := r_wsz ht hn hk hk1 rfl ea hf
      rw [wsz_congr hr] at hc1
      rw [em, en, bind_e hc1] at hj
      rw [em, en]
      have hv := wsz_v n k (shJ (60 * t) tr)
      by_cases h0 : wsz n k (shJ (60 * t) tr) = 0
      · have hz := wsz_0 h0
        rw [h0] at hc2 hj
        rw [if_pos rfl] at hj
        cases hal : alv at_ m
        · rw [hal] at hj
          exact ⟨7, true, by omega, hj, e2, fun h => (by cases h), fun _ => ⟨m, hm, rfl, Or.inr ⟨k, 0, hk1, hk, rfl, by omega, hc2, Or.inr ⟨rfl, Or.inl ⟨rfl, hal⟩⟩⟩⟩⟩
        · rw [hal] at hj
          exact ⟨0, true, by omega, hj, e2, fun h => (by cases h), fun _ => ⟨m, hm, rfl, Or.inr ⟨k, 0, hk1, hk, rfl, by omega, hc2, Or.inr ⟨rfl, Or.inr ⟨rfl, hal, n, hn, hz.1, rfl, fun i hi => hr i (by omega)⟩⟩⟩⟩⟩
      · rw [if_neg (by rw [wd_inj (by omega) (by omega)]; exact h0)] at hj
        exact ⟨_, true, by omega, hj, e2, fun h => (by cases h), fun _ => ⟨m, hm, rfl, Or.inr ⟨k, _, hk1, hk, rfl, by omega, hc2, Or.inl ⟨h0, by omega, rfl⟩⟩⟩⟩
theorem t_most {t : Nat} {y : tX8} {srt tm : Nat → Int32} {tr : Nat → Int64} {x1 x3 : Int32} {n_name : Nat → Int64} {n_courage : Nat → Int32} {n_weight : Nat → Int32} {n_medals : Nat → Int32} {n_stood : Nat → Int32} {n_fled : Nat → Int32} {n_liked : Nat → Int32} {n_votes : Nat → Int32} {n_count : Int32} {n_living : Int32} {n_pride : Int32} {n_quota : Int32} {n_melted : Int32} {n_lost : Int32} {f_sizes : Nat → Int32} {f_dangers : Int32} {a_name : Nat → Int64} (hW : WF at_ c) (hR : RA at_ c cou wei med sto fle lik cnt liv pri quo mel los) (ht : t < 4) (hy : RY y (srt t) (tm t) (shJ (60 * t) tr)) (hf : 5000 ≤ fu) : ∃ r st1 z2 at2 b', mostG fu st (vX8_row y) (vX8_missing y) (vX8_many y) a_name cou wei med sto fle lik cnt liv pri quo mel los f_sizes f_dangers n_name n_courage n_weight n_medals n_stood n_fled n_liked n_votes n_count n_living n_pride n_quota n_melted n_lost x1 x3 = some (r, st1, z2) ∧ f_X12_most fu at_ st' tm tr b0 x1 (wd t) x3 = some (r, at2, st1, b') ∧ AG at_ at2 := by
  obtain ⟨hV, rfl, rfl, rfl, rfl, rfl, rfl, h3, h4, h0⟩ := hR
  have h8 := hW.1
  have hc := hW.2.1
  obtain ⟨j, w, hj, e1, e2, e3, e4⟩ := t_oref (fu := fu) (x1 := x1) (x3 := x3) hc h8 ht hy (by omega)
  have hbad : j ≠ 0 → mostG fu st (vX8_row y) (vX8_missing y) (vX8_many y) a_name cou wei med sto fle lik (wd c) (wd (mask (alv at_) c)) (at_ 1) (at_ 2) (at_ 3) (at_ 4) f_sizes f_dangers n_name n_courage n_weight n_medals n_stood n_fled n_liked n_votes n_count n_living n_pride n_quota n_melted n_lost x1 x3 = some (nn, wd j, f_sizes, f_dangers, n_name, n_courage, n_weight, n_medals, n_stood, n_fled, n_liked, n_votes, n_count, n_living, n_pride, n_quota, n_melted, n_lost) := by
    intro hj0
    unfold mostG
    rw [bind_e e1, if_neg (show ¬ wd j = 0 by rw [show (0 : Int32) = wd 0 from rfl, wd_inj (by omega) (by omega)]; exact hj0)]
    rfl
  have href : ∀ v, v ≤ 7 → v ≠ 0 → f_X12_most_j19 fu tm tr x1 (wd t) x3 at_ st' b0 (wd v) = some (nn, at_, wd v, b0) := by
    intro v hv hv0
    unfold f_X12_most_j19
    rw [if_neg (show ¬ wd v ≤ 0 by rw [show (0 : Int32) = wd 0 from rfl, wd_le (by omega) (by omega)]; omega)]
    rfl
  cases w
  · have hj1 := e3 rfl
    subst hj1
    refine ⟨_, _, _, at_, b0, hbad (by omega), ?_, fun _ _ => rfl⟩
    unfold f_X12_most
    rw [bind_e e2, if_pos (show i01 false = 0 by decide)]
    exact href 1 (by omega) (by omega)
  · obtain ⟨m, hm, rfl, h5⟩ := e4 rfl
    have hgame : ∀ v, f_X12_wrongSizes fu tm tr (wd t) x3 (wd 1) = some (wd v) → f_X12_most fu at_ st' tm tr b0 (wd m) (wd t) x3 = f_X12_most_j19 fu tm tr (wd m) (wd t) x3 at_ st' b0 (wd v) := by
      intro v hv
      unfold f_X12_most
      rw [bind_e e2, if_neg (show ¬ i01 true = 0 by decide), show (1 : Int32) = wd 1 from rfl, bind_e hv]
    rcases h5 with ⟨rfl, h6⟩ | ⟨k, v, hk1, hk4, rfl, hv, h6, h7⟩
    · exact ⟨_, _, _, at_, b0, hbad (by omega), (hgame 1 h6).trans (href 1 (by omega) (by omega)), fun _ _ => rfl⟩
    · rcases h7 with ⟨hv0, hv1, rfl⟩ | ⟨rfl, h7⟩
      · exact ⟨_, _, _, at_, b0, hbad hv0, (hgame j h6).trans (href j (by omega) hv0), fun _ _ => rfl⟩
      · have hg0 : f_X12_most fu at_ st' tm tr b0 (wd m) (wd t) (wd k) = if alv at_ m then (f_X12_ordering fu at_ tr b0 (wd m) (wd t) (wd k)).bind fun z_15 => some (z_15.1, z_15.2.1, wd 0, z_15.2.2) else some (nn, at_, wd 7, b0) := by
          rw [hgame 0 h6]
          unfold f_X12_most_j19
          rw [if_pos (show wd 0 ≤ 0 by decide), bind_e (r_isAlive (by omega))]
          cases alv at_ m <;> rfl
        rcases h7 with ⟨rfl, hal⟩ | ⟨rfl, hal, n, hn, hkn, en, hr⟩
        · exact ⟨_, _, _, at_, b0, hbad (by omega), by rw [hg0, hal]; rfl, fun _ _ => rfl⟩
        · obtain ⟨at2, p1, p2⟩ := r_ordering (fu := fu) (tr := tr) (b0 := b0) hW hm hal ht hk4 hf
          rw [en] at e1 ⊢
          obtain ⟨szs', l1, l2⟩ := c_look (fu := fu) (row := vX8_row y) (szs := f_sizes) (dg := f_dangers) (n_name := n_name) (n_courage := n_courage) (n_weight := n_weight) (n_medals := n_medals) (n_stood := n_stood) (n_fled := n_fled) (n_liked := n_liked) (n_count := n_count) (n_living := n_living) (n_pride := n_pride) (n_quota := n_quota) (n_melted := n_melted) (n_lost := n_lost) (a_name := a_name) (a_courage := cou) (a_weight := wei) (a_medals := med) (a_stood := sto) (a_fled := fle) (a_liked := lik) (a_count := wd c) (a_living := wd (mask (alv at_) c)) (a_pride := at_ 1) (a_quota := at_ 2) (a_melted := at_ 3) (a_lost := at_ 4) hn hk4 hkn (by omega)
          have hVc := RV_cpy (n1 := n_courage) (n2 := n_weight) (n3 := n_medals) (n4 := n_liked) h8 hV
          obtain ⟨vot', v1⟩ := c_mostF (fu := fu) (szs := szs') (sz := sza t tr) hm hk4 (fun i hi => by rw [l2 i hi, hr i hi]; rfl) (by omega) k 0 6 at_ _ n_votes (by omega) (by omega) hW hVc ⟨m, hm, hal⟩
          have q0 := imn_wd (c := c) (by omega) hm
          refine ⟨wd (mvl c m (sza t tr) k 0 at_) - wd (mdn at_ m), wd 0, ?_, at2, wd (bo c m (sza t tr) k 0 at_), ?_, ?_, p2.ag⟩
          rotate_left
          · unfold mostG
            rw [bind_e e1, if_pos (show wd 0 = 0 from rfl), bind_e l1]
            unfold f_X4_mostFor
            dsimp only
            rw [bind_e c_isM, q0, if_neg (show ¬ i01 true = 0 by decide)]
            rw [show (0 : Int32) = wd 0 from rfl, bind_e v1, bind_e (rdI_wd (show m < 8 by omega) (by omega))]
            dsimp only
            rw [hVc.2.2.1 m hm, (mdn_e hW hm).1]
            rfl
          · rw [hg0, hal]
            show ((f_X12_ordering fu at_ tr b0 (wd m) (wd t) (wd k)).bind fun z_15 => some (z_15.1, z_15.2.1, wd 0, z_15.2.2)) = _
            rw [bind_e p1]
theorem t_facesAt {t : Nat} {y : tX8} {srt tm : Nat → Int32} {tr : Nat → Int64} {x1 x3 x4 : Int32} {n_name : Nat → Int64} {n_courage : Nat → Int32} {n_weight : Nat → Int32} {n_medals : Nat → Int32} {n_stood : Nat → Int32} {n_fled : Nat → Int32} {n_liked : Nat → Int32} {n_votes : Nat → Int32} {n_count : Int32} {n_living : Int32} {n_pride : Int32} {n_quota : Int32} {n_melted : Int32} {n_lost : Int32} {f_sizes : Nat → Int32} {f_dangers : Int32} {a_name : Nat → Int64} (hW : WF at_ c) (hR : RA at_ c cou wei med sto fle lik cnt liv pri quo mel los) (ht : t < 4) (hy : RY y (srt t) (tm t) (shJ (60 * t) tr)) (hf : 5000 ≤ fu) : ∃ r st1 z2 at2 b', facesG fu st (vX8_row y) (vX8_missing y) (vX8_many y) a_name cou wei med sto fle lik cnt liv pri quo mel los f_sizes f_dangers n_name n_courage n_weight n_medals n_stood n_fled n_liked n_votes n_count n_living n_pride n_quota n_melted n_lost x1 x3 x4 = some (r, st1, z2) ∧ f_X12_facesAt fu at_ st' tm tr b0 x1 (wd t) x3 x4 = some (r, at2, st1, b') ∧ AG at_ at2 := by
  obtain ⟨hV, rfl, rfl, rfl, rfl, rfl, rfl, h3, h4, h0⟩ := hR
  have h8 := hW.1
  have hc := hW.2.1
  obtain ⟨j, w, hj, e1, e2, e3, e4⟩ := t_oref (fu := fu) (x1 := x1) (x3 := x3) hc h8 ht hy (by omega)
  have hbad1 : j = 1 → facesG fu st (vX8_row y) (vX8_missing y) (vX8_many y) a_name cou wei med sto fle lik (wd c) (wd (mask (alv at_) c)) (at_ 1) (at_ 2) (at_ 3) (at_ 4) f_sizes f_dangers n_name n_courage n_weight n_medals n_stood n_fled n_liked n_votes n_count n_living n_pride n_quota n_melted n_lost x1 x3 x4 = some (nn, wd 1, f_sizes, f_dangers, n_name, n_courage, n_weight, n_medals, n_stood, n_fled, n_liked, n_votes, n_count, n_living, n_pride, n_quota, n_melted, n_lost) := by
    intro hj0
    subst hj0
    unfold facesG
    rw [bind_e e1, if_pos (show wd 1 = 1 from rfl)]
    rfl
  have href : ∀ v, v ≤ 7 → v ≠ 0 → f_X12_facesAt_j30 fu tm tr x1 (wd t) x3 x4 at_ st' b0 (wd v) = some (nn, at_, wd v, b0) := by
    intro v hv hv0
    unfold f_X12_facesAt_j30
    rw [if_neg (show ¬ wd v ≤ 0 by rw [show (0 : Int32) = wd 0 from rfl, wd_le (by omega) (by omega)]; omega)]
    rfl
  cases w
  · have hj1 := e3 rfl
    refine ⟨_, _, _, at_, b0, hbad1 hj1, ?_, fun _ _ => rfl⟩
    unfold f_X12_facesAt
    rw [bind_e e2, if_pos (show i01 false = 0 by decide)]
    exact href 1 (by omega) (by omega)
  · obtain ⟨m, hm, rfl, h5⟩ := e4 rfl
    have hgame : ∀ v, f_X12_wrongSizes fu tm tr (wd t) x3 (wd 1) = some (wd v) → f_X12_facesAt fu at_ st' tm tr b0 (wd m) (wd t) x3 x4 = if x4 < wd 0 then some (nn, at_, wd 1, b0) else if x3 ≤ x4 then some (nn, at_, wd 1, b0) else f_X12_facesAt_j30 fu tm tr (wd m) (wd t) x3 x4 at_ st' b0 (wd v) := by
      intro v hv
      have h1 := href 1 (by omega) (by omega)
      unfold f_X12_facesAt
      rw [bind_e e2, if_neg (show ¬ i01 true = 0 by decide), show (0 : Int32) = wd 0 from rfl, show (1 : Int32) = wd 1 from rfl, bind_e hv, h1]
    rcases h5 with ⟨rfl, h6⟩ | ⟨k, v, hk1, hk4, rfl, hv, h6, h7⟩
    · refine ⟨_, _, _, at_, b0, hbad1 rfl, ?_, fun _ _ => rfl⟩
      rw [hgame 1 h6, href 1 (by omega) (by omega), ite_self, ite_self]
    · cases q4 : wn 0 (k - 1) x4
      · refine ⟨nn, wd 1, (f_sizes, f_dangers, n_name, n_courage, n_weight, n_medals, n_stood, n_fled, n_liked, n_votes, n_count, n_living, n_pride, n_quota, n_melted, n_lost), at_, b0, ?_, ?_, fun _ _ => rfl⟩
        rotate_left
        · rw [hgame v h6]
          simp only [wn, decide_eq_false_iff_not] at q4
          by_cases a1 : x4 < wd 0
          · rw [if_pos a1]
          · rw [if_neg a1, if_pos]
            obtain ⟨z, hz, rfl⟩ := wd_ex a1
            rw [wd_le (by omega) hz]
            rw [wd_le (by omega) hz, wd_le hz (by omega)] at q4
            omega
        · by_cases hj1 : j = 1
          · exact hbad1 hj1
          · unfold facesG
            rw [bind_e e1, if_neg (show ¬ wd j = 1 by rw [show (1 : Int32) = wd 1 from rfl, wd_inj (by omega) (by omega)]; exact hj1), show (0 : Int32) = wd 0 from rfl, show (1 : Int32) = wd 1 from rfl, wd_sub hk1, bind_e c_within, q4]
            rfl
      · obtain ⟨kk, _, hkk, rfl⟩ := wn_ex (by omega) (by omega) q4
        have hg1 : f_X12_facesAt fu at_ st' tm tr b0 (wd m) (wd t) (wd k) (wd kk) = f_X12_facesAt_j30 fu tm tr (wd m) (wd t) (wd k) (wd kk) at_ st' b0 (wd v) := by
          rw [hgame v h6, if_neg (by rw [wd_lt (by omega) (by omega)]; omega), if_neg (by rw [wd_le (by omega) (by omega)]; omega)]
        have hcf : j ≠ 1 → facesG fu st (vX8_row y) (vX8_missing y) (vX8_many y) a_name cou wei med sto fle lik (wd c) (wd (mask (alv at_) c)) (at_ 1) (at_ 2) (at_ 3) (at_ 4) f_sizes f_dangers n_name n_courage n_weight n_medals n_stood n_fled n_liked n_votes n_count n_living n_pride n_quota n_melted n_lost (wd m) (wd k) (wd kk) = if wd j = 0 then (f_X4_look fu f_sizes f_dangers n_name n_courage n_weight n_medals n_stood n_fled n_liked n_count n_living n_pride n_quota n_melted n_lost a_name cou wei med sto fle lik (wd c) (wd (mask (alv at_) c)) (at_ 1) (at_ 2) (at_ 3) (at_ 4) (vX8_row y) (vX8_many y) (wd k)).bind fun z_67 => (f_X4_facerOf fu z_67.1 z_67.2.1 z_67.2.2.2.1 z_67.2.2.2.2.1 z_67.2.2.2.2.2.1 z_67.2.2.2.2.2.2.2.2.1 n_votes z_67.2.2.2.2.2.2.2.2.2.1 z_67.2.2.2.2.2.2.2.2.2.2.1 z_67.2.2.2.2.2.2.2.2.2.2.2.1 (wd m) (wd kk)).bind fun z_68 => some (z_68.1, wd 0, z_67.1, z_67.2.1, z_67.2.2.1, z_67.2.2.2.1, z_67.2.2.2.2.1, z_68.2.1, z_67.2.2.2.2.2.2.1, z_67.2.2.2.2.2.2.2.1, z_67.2.2.2.2.2.2.2.2.1, z_68.2.2, z_67.2.2.2.2.2.2.2.2.2.1, z_67.2.2.2.2.2.2.2.2.2.2.1, z_67.2.2.2.2.2.2.2.2.2.2.2.1, z_67.2.2.2.2.2.2.2.2.2.2.2.2.1, z_67.2.2.2.2.2.2.2.2.2.2.2.2.2.1, z_67.2.2.2.2.2.2.2.2.2.2.2.2.2.2) else some (nn, wd j, f_sizes, f_dangers, n_name, n_courage, n_weight, n_medals, n_stood, n_fled, n_liked, n_votes, n_count, n_living, n_pride, n_quota, n_melted, n_lost) := by
          intro hj1
          unfold facesG
          rw [bind_e e1, if_neg (show ¬ wd j = 1 by rw [show (1 : Int32) = wd 1 from rfl, wd_inj (by omega) (by omega)]; exact hj1), bind_e (show f_X11_within fu (wd kk) 0 (wd k - 1) = some (i01 true) from by rw [show (0 : Int32) = wd 0 from rfl, show (1 : Int32) = wd 1 from rfl, wd_sub hk1, c_within, q4]), if_neg (show ¬ i01 true = 0 by decide)]
          rfl
        rcases h7 with ⟨hv0, hv1, rfl⟩ | ⟨rfl, h7⟩
        · refine ⟨nn, wd j, (f_sizes, f_dangers, n_name, n_courage, n_weight, n_medals, n_stood, n_fled, n_liked, n_votes, n_count, n_living, n_pride, n_quota, n_melted, n_lost), at_, b0, ?_, hg1.trans (href j (by omega) hv0), fun _ _ => rfl⟩
          rw [hcf hv1, if_neg (show ¬ wd j = 0 by rw [show (0 : Int32) = wd 0 from rfl, wd_inj (by omega) (by omega)]; exact hv0)]
        · have hg0 : f_X12_facesAt_j30 fu tm tr (wd m) (wd t) (wd k) (wd kk) at_ st' b0 (wd 0) = if alv at_ m then (f_X12_ordering fu at_ tr b0 (wd m) (wd t) (wd k)).bind fun z_15 => some ((z_15.2.2 >>> ((3 * ((wd k - 1) - wd kk)) &&& 31)) &&& 7, z_15.2.1, wd 0, z_15.2.2) else some (nn, at_, wd 7, b0) := by
            unfold f_X12_facesAt_j30
            rw [if_pos (show wd 0 ≤ 0 by decide), bind_e (r_isAlive (by omega))]
            cases alv at_ m <;> rfl
          rcases h7 with ⟨rfl, hal⟩ | ⟨rfl, hal, n, hn, hkn, en, hr⟩
          · refine ⟨nn, wd 7, (f_sizes, f_dangers, n_name, n_courage, n_weight, n_medals, n_stood, n_fled, n_liked, n_votes, n_count, n_living, n_pride, n_quota, n_melted, n_lost), at_, b0, ?_, hg1.trans (by rw [hg0, hal]; rfl), fun _ _ => rfl⟩
            rw [hcf (by omega), if_neg (by decide)]
          · obtain ⟨at2, p1, p2⟩ := r_ordering (fu := fu) (tr := tr) (b0 := b0) hW hm hal ht hk4 hf
            obtain ⟨szs', l1, l2⟩ := c_look (fu := fu) (row := vX8_row y) (szs := f_sizes) (dg := f_dangers) (n_name := n_name) (n_courage := n_courage) (n_weight := n_weight) (n_medals := n_medals) (n_stood := n_stood) (n_fled := n_fled) (n_liked := n_liked) (n_count := n_count) (n_living := n_living) (n_pride := n_pride) (n_quota := n_quota) (n_melted := n_melted) (n_lost := n_lost) (a_name := a_name) (a_courage := cou) (a_weight := wei) (a_medals := med) (a_stood := sto) (a_fled := fle) (a_liked := lik) (a_count := wd c) (a_living := wd (mask (alv at_) c)) (a_pride := at_ 1) (a_quota := at_ 2) (a_melted := at_ 3) (a_lost := at_ 4) hn hk4 hkn (by omega)
            have hVc := RV_cpy (n1 := n_courage) (n2 := n_weight) (n3 := n_medals) (n4 := n_liked) h8 hV
            obtain ⟨med', vot', v1⟩ := c_facer (fu := fu) (szs := szs') (sz := sza t tr) hm hk4 (fun i hi => by rw [l2 i hi, hr i hi]; rfl) (show kk < k by omega) (by omega) kk k 0 at_ _ n_votes nn fu (by omega) (by omega) (by omega) hW hVc ⟨m, hm, hal⟩
            have hbl := bo_lt (m := m) (sz := sza t tr) h8 k 0 at_ ⟨m, hm, hal⟩
            have hp := pw_82 k hk4
            have hdig := bo_dgt (m := m) (sz := sza t tr) h8 k 0 at_ kk ⟨m, hm, hal⟩ (by omega)
            refine ⟨wd (dgt c m (sza t tr) k 0 at_ kk), wd 0, ?_, at2, wd (bo c m (sza t tr) k 0 at_), ?_, ?_, p2.ag⟩
            rotate_left
            · rw [hcf (by omega), if_pos (show wd 0 = 0 from rfl), en, bind_e l1]
              unfold f_X4_facerOf
              dsimp only
              rw [show (-1 : Int32) = nn from rfl, show (0 : Int32) = wd 0 from rfl, bind_e v1]
            · rw [hg1, hg0, hal]
              show ((f_X12_ordering fu at_ tr b0 (wd m) (wd t) (wd k)).bind fun z_15 => some ((z_15.2.2 >>> ((3 * ((wd k - 1) - wd kk)) &&& 31)) &&& 7, z_15.2.1, wd 0, z_15.2.2)) = _
              rw [bind_e p1, show (1 : Int32) = wd 1 from rfl, show (3 : Int32) = wd 3 from rfl, show (31 : Int32) = wd 31 from rfl, show (7 : Int32) = wd 7 from rfl, wd_sub hk1, wd_sub (show kk ≤ k - 1 by omega), dig (by omega) (by omega), hdig]
end
theorem r_mostn {fu c : Nat} {at_ tm : Nat → Int32} {tr : Nat → Int64} {st' b0 x1 x2 x3 : Int32} (hc : at_ 0 = wd c) (q : imn 4 x2 = false) : f_X12_most fu at_ st' tm tr b0 x1 x2 x3 = some (nn, at_, wd 1, b0) := by
  have e : ∀ lo, f_X12_wrongSizes fu tm tr x2 x3 lo = some (wd 1) := by
    intro lo
    unfold f_X12_wrongSizes
    rw [bind_e r_isTray, q]; rfl
  have hj : f_X12_most_j19 fu tm tr x1 x2 x3 at_ st' b0 1 = some (nn, at_, wd 1, b0) := rfl
  unfold f_X12_most
  rw [bind_e (e _), r_isM hc]
  cases imn c x1
  · exact hj
  · exact hj
theorem Q1_most {fu : Nat} (hf : 5000 ≤ fu) : Q_most fu RR := by
  intro S M x1 x2 x3 h
  have hy := h.2.1
  obtain ⟨c, hW, hA, hN, hWr⟩ := h.2.2.1
  cases q0 : imn 4 x2
  · refine q_of (bind_e (most_n hA.2.1 (imn4 q0))) (bind_e (r_mostn hW.2.1 q0)) ⟨⟨rfl, h.1.2⟩, h.2⟩
  · obtain ⟨t, ht, rfl⟩ := imn_ex (by omega) q0
    obtain rfl | rfl | rfl | rfl : t = 0 ∨ t = 1 ∨ t = 2 ∨ t = 3 := by omega
    · obtain ⟨r, st1, z2, at2, b', e1, e2, h5⟩ := t_most (st := vX11_latestStatus (S_b S)) (st' := vX12_status M) (x1 := x1) (x3 := x3) (b0 := vX12_bestOrder M) (a_name := vX0_name (S_a S)) (f_sizes := vX4_sizes (S_f S)) (f_dangers := vX4_dangers (S_f S)) (n_name := vX0_name (S_n S)) (n_courage := vX0_courage (S_n S)) (n_weight := vX0_weight (S_n S)) (n_medals := vX0_medals (S_n S)) (n_stood := vX0_stood (S_n S)) (n_fled := vX0_fled (S_n S)) (n_liked := vX0_liked (S_n S)) (n_votes := vX0_votes (S_n S)) (n_count := vX0_count (S_n S)) (n_living := vX0_living (S_n S)) (n_pride := vX0_pride (S_n S)) (n_quota := vX0_quota (S_n S)) (n_melted := vX0_melted (S_n S)) (n_lost := vX0_lost (S_n S)) hW hA (show 0 < 4 by omega) hy.1 hf
      have hag := RR_ag h5 h.2.2.1 h.2.2.2.1
      exact q_of (bind_e (most_0.trans e1)) (bind_e e2) ⟨⟨rfl, h.1.2⟩, h.2.1, hag.1, hag.2, h.2.2.2.2⟩
    · obtain ⟨r, st1, z2, at2, b', e1, e2, h5⟩ := t_most (st := vX11_latestStatus (S_b S)) (st' := vX12_status M) (x1 := x1) (x3 := x3) (b0 := vX12_bestOrder M) (a_name := vX0_name (S_a S)) (f_sizes := vX4_sizes (S_f S)) (f_dangers := vX4_dangers (S_f S)) (n_name := vX0_name (S_n S)) (n_courage := vX0_courage (S_n S)) (n_weight := vX0_weight (S_n S)) (n_medals := vX0_medals (S_n S)) (n_stood := vX0_stood (S_n S)) (n_fled := vX0_fled (S_n S)) (n_liked := vX0_liked (S_n S)) (n_votes := vX0_votes (S_n S)) (n_count := vX0_count (S_n S)) (n_living := vX0_living (S_n S)) (n_pride := vX0_pride (S_n S)) (n_quota := vX0_quota (S_n S)) (n_melted := vX0_melted (S_n S)) (n_lost := vX0_lost (S_n S)) hW hA (show 1 < 4 by omega) hy.2.1 hf
      have hag := RR_ag h5 h.2.2.1 h.2.2.2.1
      exact q_of (bind_e (most_1.trans e1)) (bind_e e2) ⟨⟨rfl, h.1.2⟩, h.2.1, hag.1, hag.2, h.2.2.2.2⟩
    · obtain ⟨r, st1, z2, at2, b', e1, e2, h5⟩ := t_most (st := vX11_latestStatus (S_b S)) (st' := vX12_status M) (x1 := x1) (x3 := x3) (b0 := vX12_bestOrder M) (a_name := vX0_name (S_a S)) (f_sizes := vX4_sizes (S_f S)) (f_dangers := vX4_dangers (S_f S)) (n_name := vX0_name (S_n S)) (n_courage := vX0_courage (S_n S)) (n_weight := vX0_weight (S_n S)) (n_medals := vX0_medals (S_n S)) (n_stood := vX0_stood (S_n S)) (n_fled := vX0_fled (S_n S)) (n_liked := vX0_liked (S_n S)) (n_votes := vX0_votes (S_n S)) (n_count := vX0_count (S_n S)) (n_living := vX0_living (S_n S)) (n_pride := vX0_pride (S_n S)) (n_quota := vX0_quota (S_n S)) (n_melted := vX0_melted (S_n S)) (n_lost := vX0_lost (S_n S)) hW hA (show 2 < 4 by omega) hy.2.2.1 hf
      have hag := RR_ag h5 h.2.2.1 h.2.2.2.1
      exact q_of (bind_e (most_2.trans e1)) (bind_e e2) ⟨⟨rfl, h.1.2⟩, h.2.1, hag.1, hag.2, h.2.2.2.2⟩
    · obtain ⟨r, st1, z2, at2, b', e1, e2, h5⟩ := t_most (st := vX11_latestStatus (S_b S)) (st' := vX12_status M) (x1 := x1) (x3 := x3) (b0 := vX12_bestOrder M) (a_name := vX0_name (S_a S)) (f_sizes := vX4_sizes (S_f S)) (f_dangers := vX4_dangers (S_f S)) (n_name := vX0_name (S_n S)) (n_courage := vX0_courage (S_n S)) (n_weight := vX0_weight (S_n S)) (n_medals := vX0_medals (S_n S)) (n_stood := vX0_stood (S_n S)) (n_fled := vX0_fled (S_n S)) (n_liked := vX0_liked (S_n S)) (n_votes := vX0_votes (S_n S)) (n_count := vX0_count (S_n S)) (n_living := vX0_living (S_n S)) (n_pride := vX0_pride (S_n S)) (n_quota := vX0_quota (S_n S)) (n_melted := vX0_melted (S_n S)) (n_lost := vX0_lost (S_n S)) hW hA (show 3 < 4 by omega) hy.2.2.2 hf
      have hag := RR_ag h5 h.2.2.1 h.2.2.2.1
      exact q_of (bind_e (most_3.trans e1)) (bind_e e2) ⟨⟨rfl, h.1.2⟩, h.2.1, hag.1, hag.2, h.2.2.2.2⟩
theorem r_facesAtn {fu c : Nat} {at_ tm : Nat → Int32} {tr : Nat → Int64} {st' b0 x1 x2 x3 x4 : Int32} (hc : at_ 0 = wd c) (q : imn 4 x2 = false) : f_X12_facesAt fu at_ st' tm tr b0 x1 x2 x3 x4 = some (nn, at_, wd 1, b0) := by
  have e : ∀ lo, f_X12_wrongSizes fu tm tr x2 x3 lo = some (wd 1) := by
    intro lo
    unfold f_X12_wrongSizes
    rw [bind_e r_isTray, q]; rfl
  have hj : f_X12_facesAt_j30 fu tm tr x1 x2 x3 x4 at_ st' b0 1 = some (nn, at_, wd 1, b0) := rfl
  have hj' : f_X12_facesAt_j30 fu tm tr x1 x2 x3 x4 at_ st' b0 (wd 1) = some (nn, at_, wd 1, b0) := rfl
  unfold f_X12_facesAt
  rw [bind_e (e _), r_isM hc, hj, hj']
  cases imn c x1
  · rfl
  · show (if x4 < 0 then some (nn, at_, wd 1, b0) else if x3 ≤ x4 then some (nn, at_, wd 1, b0) else some (nn, at_, wd 1, b0)) = _
    rw [ite_self, ite_self]
theorem Q1_facesAt {fu : Nat} (hf : 5000 ≤ fu) : Q_facesAt fu RR := by
  intro S M x1 x2 x3 x4 h
  have hy := h.2.1
  obtain ⟨c, hW, hA, hN, hWr⟩ := h.2.2.1
  cases q0 : imn 4 x2
  · refine q_of (bind_e (facesAt_n hA.2.1 (imn4 q0))) (bind_e (r_facesAtn hW.2.1 q0)) ⟨⟨rfl, h.1.2⟩, h.2⟩
  · obtain ⟨t, ht, rfl⟩ := imn_ex (by omega) q0
    obtain rfl | rfl | rfl | rfl : t = 0 ∨ t = 1 ∨ t = 2 ∨ t = 3 := by omega
    · obtain ⟨r, st1, z2, at2, b', e1, e2, h5⟩ := t_facesAt (st := vX11_latestStatus (S_b S)) (st' := vX12_status M) (x1 := x1) (x3 := x3) (x4 := x4) (b0 := vX12_bestOrder M) (a_name := vX0_name (S_a S)) (f_sizes := vX4_sizes (S_f S)) (f_dangers := vX4_dangers (S_f S)) (n_name := vX0_name (S_n S)) (n_courage := vX0_courage (S_n S)) (n_weight := vX0_weight (S_n S)) (n_medals := vX0_medals (S_n S)) (n_stood := vX0_stood (S_n S)) (n_fled := vX0_fled (S_n S)) (n_liked := vX0_liked (S_n S)) (n_votes := vX0_votes (S_n S)) (n_count := vX0_count (S_n S)) (n_living := vX0_living (S_n S)) (n_pride := vX0_pride (S_n S)) (n_quota := vX0_quota (S_n S)) (n_melted := vX0_melted (S_n S)) (n_lost := vX0_lost (S_n S)) hW hA (show 0 < 4 by omega) hy.1 hf
      have hag := RR_ag h5 h.2.2.1 h.2.2.2.1
      exact q_of (bind_e (facesAt_0.trans e1)) (bind_e e2) ⟨⟨rfl, h.1.2⟩, h.2.1, hag.1, hag.2, h.2.2.2.2⟩
    · obtain ⟨r, st1, z2, at2, b', e1, e2, h5⟩ := t_facesAt (st := vX11_latestStatus (S_b S)) (st' := vX12_status M) (x1 := x1) (x3 := x3) (x4 := x4) (b0 := vX12_bestOrder M) (a_name := vX0_name (S_a S)) (f_sizes := vX4_sizes (S_f S)) (f_dangers := vX4_dangers (S_f S)) (n_name := vX0_name (S_n S)) (n_courage := vX0_courage (S_n S)) (n_weight := vX0_weight (S_n S)) (n_medals := vX0_medals (S_n S)) (n_stood := vX0_stood (S_n S)) (n_fled := vX0_fled (S_n S)) (n_liked := vX0_liked (S_n S)) (n_votes := vX0_votes (S_n S)) (n_count := vX0_count (S_n S)) (n_living := vX0_living (S_n S)) (n_pride := vX0_pride (S_n S)) (n_quota := vX0_quota (S_n S)) (n_melted := vX0_melted (S_n S)) (n_lost := vX0_lost (S_n S)) hW hA (show 1 < 4 by omega) hy.2.1 hf
      have hag := RR_ag h5 h.2.2.1 h.2.2.2.1
      exact q_of (bind_e (facesAt_1.trans e1)) (bind_e e2) ⟨⟨rfl, h.1.2⟩, h.2.1, hag.1, hag.2, h.2.2.2.2⟩
    · obtain ⟨r, st1, z2, at2, b', e1, e2, h5⟩ := t_facesAt (st := vX11_latestStatus (S_b S)) (st' := vX12_status M) (x1 := x1) (x3 := x3) (x4 := x4) (b0 := vX12_bestOrder M) (a_name := vX0_name (S_a S)) (f_sizes := vX4_sizes (S_f S)) (f_dangers := vX4_dangers (S_f S)) (n_name := vX0_name (S_n S)) (n_courage := vX0_courage (S_n S)) (n_weight := vX0_weight (S_n S)) (n_medals := vX0_medals (S_n S)) (n_stood := vX0_stood (S_n S)) (n_fled := vX0_fled (S_n S)) (n_liked := vX0_liked (S_n S)) (n_votes := vX0_votes (S_n S)) (n_count := vX0_count (S_n S)) (n_living := vX0_living (S_n S)) (n_pride := vX0_pride (S_n S)) (n_quota := vX0_quota (S_n S)) (n_melted := vX0_melted (S_n S)) (n_lost := vX0_lost (S_n S)) hW hA (show 2 < 4 by omega) hy.2.2.1 hf
      have hag := RR_ag h5 h.2.2.1 h.2.2.2.1
      exact q_of (bind_e (facesAt_2.trans e1)) (bind_e e2) ⟨⟨rfl, h.1.2⟩, h.2.1, hag.1, hag.2, h.2.2.2.2⟩
    · obtain ⟨r, st1, z2, at2, b', e1, e2, h5⟩ := t_facesAt (st := vX11_latestStatus (S_b S)) (st' := vX12_status M) (x1 := x1) (x3 := x3) (x4 := x4) (b0 := vX12_bestOrder M) (a_name := vX0_name (S_a S)) (f_sizes := vX4_sizes (S_f S)) (f_dangers := vX4_dangers (S_f S)) (n_name := vX0_name (S_n S)) (n_courage := vX0_courage (S_n S)) (n_weight := vX0_weight (S_n S)) (n_medals := vX0_medals (S_n S)) (n_stood := vX0_stood (S_n S)) (n_fled := vX0_fled (S_n S)) (n_liked := vX0_liked (S_n S)) (n_votes := vX0_votes (S_n S)) (n_count := vX0_count (S_n S)) (n_living := vX0_living (S_n S)) (n_pride := vX0_pride (S_n S)) (n_quota := vX0_quota (S_n S)) (n_melted := vX0_melted (S_n S)) (n_lost := vX0_lost (S_n S)) hW hA (show 3 < 4 by omega) hy.2.2.2 hf
      have hag := RR_ag h5 h.2.2.1 h.2.2.2.1
      exact q_of (bind_e (facesAt_3.trans e1)) (bind_e e2) ⟨⟨rfl, h.1.2⟩, h.2.1, hag.1, hag.2, h.2.2.2.2⟩
