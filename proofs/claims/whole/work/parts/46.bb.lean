section RS
set_option maxRecDepth 16384 in
theorem r_c_2_2 : ((tables_1_2.drop 80).take 40).all (fun c => su_isCode c || c.before start1.args0 r_about) = true := by decide +kernel
set_option maxRecDepth 16384 in
theorem r_c_2_3 : ((tables_1_2.drop 120).take 40).all (fun c => su_isCode c || c.before start1.args0 r_about) = true := by decide +kernel
set_option maxRecDepth 16384 in
theorem r_c_2_4 : ((tables_1_2.drop 160).take 40).all (fun c => su_isCode c || c.before start1.args0 r_about) = true := by decide +kernel
set_option maxRecDepth 16384 in
theorem r_c_2_5 : (tables_1_2.drop 200).all (fun c => su_isCode c || c.before start1.args0 r_about) = true := by decide +kernel
set_option maxRecDepth 16384 in
theorem r_c_3_0 : (tables_1_3.take 40).all (fun c => su_isCode c || c.before start1.args0 r_about) = true := by decide +kernel
set_option maxRecDepth 16384 in
theorem r_c_3_1 : ((tables_1_3.drop 40).take 40).all (fun c => su_isCode c || c.before start1.args0 r_about) = true := by decide +kernel
set_option maxRecDepth 16384 in
theorem r_c_3_2 : ((tables_1_3.drop 80).take 40).all (fun c => su_isCode c || c.before start1.args0 r_about) = true := by decide +kernel
set_option maxRecDepth 16384 in
theorem r_c_3_3 : ((tables_1_3.drop 120).take 40).all (fun c => su_isCode c || c.before start1.args0 r_about) = true := by decide +kernel
end RS
