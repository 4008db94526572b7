section RS
theorem r_given : (Jvm.Cond.and given_1 narrow_1).before start1.args0 r_about = true := r_and (show given_1.before start1.args0 r_about = true by decide +kernel) (by unfold narrow_1; exact (r_and (r_and r_nar_1 r_nar_2) (r_and r_nar_3 r_nar_4)))
end RS
