section RS
set_option maxRecDepth 16384 in
theorem r_c_5_0 : (tables_1_5.take 40).all (fun c => su_isCode c || c.before start1.args0 r_about) = true := by decide +kernel
set_option maxRecDepth 16384 in
theorem r_c_5_1 : ((tables_1_5.drop 40).take 40).all (fun c => su_isCode c || c.before start1.args0 r_about) = true := by decide +kernel
set_option maxRecDepth 16384 in
theorem r_c_5_2 : ((tables_1_5.drop 80).take 40).all (fun c => su_isCode c || c.before start1.args0 r_about) = true := by decide +kernel
set_option maxRecDepth 16384 in
theorem r_c_5_3 : ((tables_1_5.drop 120).take 40).all (fun c => su_isCode c || c.before start1.args0 r_about) = true := by decide +kernel
set_option maxRecDepth 16384 in
theorem r_c_5_4 : ((tables_1_5.drop 160).take 40).all (fun c => su_isCode c || c.before start1.args0 r_about) = true := by decide +kernel
set_option maxRecDepth 16384 in
theorem r_c_5_5 : (tables_1_5.drop 200).all (fun c => su_isCode c || c.before start1.args0 r_about) = true := by decide +kernel
set_option maxRecDepth 16384 in
theorem r_c_6_0 : (tables_1_6.take 40).all (fun c => su_isCode c || c.before start1.args0 r_about) = true := by decide +kernel
set_option maxRecDepth 16384 in
theorem r_c_6_1 : ((tables_1_6.drop 40).take 40).all (fun c => su_isCode c || c.before start1.args0 r_about) = true := by decide +kernel
end RS
