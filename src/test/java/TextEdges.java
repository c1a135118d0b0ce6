/** Section 1 of the document, TEXTS: each sentence that names an edge, at the last that is allowed and the first that is not. */
public final class TextEdges extends Checks {
    private static final String WORDS = "var proc func rd wr rw end if then elseif else while do for in notin subset quit continue "
        + "return print assert stop succeed fail from fromb frome om true false ok and or not div mod exists forall abs arb domain "
        + "range pow type str char code min max rev newat random";

    // ------------------------------------------------ tokens

    private static void namesOfSixteenBytes() {
        accepted("var abcdefghijklmnop;", 0);
        faulty("var abcdefghijklmnopq;", 1, 4);
        accepted("var a_3456789_123456, a_3456789_123457, A_3456789_123456;", 0);
        faulty("var a_3456789_1234567;", 1, 4);
        faulty("var a; a := abcdefghijklmnopq;", 1, 12);
        faulty("var a, abcdefgh, abcdefghi, abcdefghijklmnop, abcdefgh;", 4, 46);
        prints(7, "var abcdefghijklmnop, abcdefghijklmnoq, abcdefgh, abcdefghi, a; abcdefghijklmnop := 1; abcdefghijklmnoq := 2; "
            + "abcdefgh := 3; abcdefghi := 4; a := 5; print(abcdefghijklmnop, abcdefghijklmnoq, abcdefgh, abcdefghi, a);", "1 2 3 4 5/");
        accepted("var a, z, A, Z, a0, a9, a_, aZ, az, z_0;", 0);
        faulty("var _a;", 1, 4);
        faulty("var 9a;", 2, 4);
        faulty("var a@;", 1, 5);
        faulty("var a`;", 1, 5);
        faulty("var a" + text(0xe4) + ";", 1, 5);
        faulty("var a, b; a := 1; b:=a1;", 5, 21);
    }

    /** Sixteen bytes, all alike but for one: they are all other names. */
    private static void namesThatDifferAtOnePlace() {
        StringBuilder told = new StringBuilder("abcdefghijklmnop");
        StringBuilder set = new StringBuilder("abcdefghijklmnop := 0; ");
        StringBuilder got = new StringBuilder("abcdefghijklmnop");
        StringBuilder want = new StringBuilder("0");
        for (int i = 0; i < 16; i++) {
            String name = "abcdefghijklmnop".substring(0, i) + "Z" + "abcdefghijklmnop".substring(i + 1);
            told.append(", ").append(name);
            set.append(name).append(" := ").append(i + 1).append("; ");
            got.append(", ").append(name);
            want.append(' ').append(i + 1);
        }
        prints(7, "var " + told + "; " + set + "print(" + got + ");", want + "/");
        prints(7, "var abcdefghab, abcdefghb, abcdefgha, abcdefghaab, abcdefghbab, aabcdefgh; abcdefghab := 1; abcdefghb := 2; abcdefgha := 3; abcdefghaab := 4; abcdefghbab := 5; aabcdefgh := 6; "
            + "print(abcdefghab, abcdefghb, abcdefgha, abcdefghaab, abcdefghbab, aabcdefgh);", "1 2 3 4 5 6/");
        for (int n = 1; n <= 16; n++) {
            String name = "abcdefghijklmnop".substring(0, n);
            faulty("var " + name + ", x, " + name + ";", 4, n + 9);
            faulty("var " + name + "; x" + name.substring(1) + " := 1;", 5, n + 6);
        }
    }

    private static void numbersOfSixtyDigits() {
        started("var a;");
        exps(12, repeated("9", 60), repeated("9", 60), repeated("0", 60), "0", repeated("0", 59) + "7", "7",
            repeated("9", 61), "?1 at 0", repeated("0", 61), "?1 at 0", "1 + " + repeated("1", 61), "?1 at 4",
            "0", "0", "007", "7", "12a", "?2 at 2");
        work(repeated("9", 60));
        due(17, "200 bits are seven times 32 begun", x.shape(1), 8);
    }

    private static void stringsOfHundredBytes() {
        started("var a;");
        exps(12, "# \"" + repeated("x", 100) + "\"", "100", "# \"" + repeated("x", 101) + "\"", "?1 at 2",
            "\"\"", "\"\"", "\" \"", "\" \"", "\"~" + text(127, 128, 255) + "\"", "\"~" + text(127, 128, 255) + "\"",
            "\"" + text(31) + "\"", "?1 at 0", "\"" + text(10) + "\"", "?1 at 0", "\"a" + text(9) + "b\"", "?1 at 0", "\"" + text(0) + "\"", "?1 at 0",
            "1 + \"abc", "?1 at 4", "\"", "?1 at 0", "\"a\"\"b\"", "?2 at 3", "\"-- no note\"", "\"-- no note\"", "'a'", "?1 at 0");
        exps(12, "\"" + repeated(text(255), 100) + "\" = char(255) * 100", "true", "\"" + repeated(text(200), 101) + "\"", "?1 at 0");
    }

    private static void blanksAndNotes() {
        accepted(text(9, 10, 13, 32) + "var" + text(9) + "a" + text(13) + ";" + text(10), 0);
        for (int c : new int[] {0, 1, 8, 11, 12, 14, 31, 127, 128, 160, 255}) {
            faulty("var a;" + text(c) + "a := 1;", 1, 6);
        }
        for (char c : "!$%&'?@\\^`~_.".toCharArray()) {
            faulty("var a; " + c, 1, 7);
            faulty("var a; a := 1 " + c + " 2;", 1, 14);
        }
        accepted("--", 0);
        accepted("var a; -- a note", 0);
        accepted("-- " + text(0, 1, 31, 127, 128, 255) + " \" $ .\nvar a; a := 1;", 1);
        fresh("var a; -- not ended by 13\rvar b;\nvar c;");
        due(19, "a note goes on to the byte 10", x.count(2), 2);
        fresh("var a;--\nvar b;");
        due(19, "a note goes to before the byte 10", x.count(2), 2);
        faulty("var a; a := 1 - - 2", 2, 19);
        prints(7, "print(1 - -2);", "3/");
        prints(7, "print(1--2);\n - 2);", "-1/");
        faulty("print(1--2);", 2, 12);
        faulty("-- only a note" + "\n;", 2, 15);
        faulty("var a; a := 1 -- note", 2, 21);
    }

    private static void tokensAsLongAsMayBe() {
        prints(7, "var a;a:=1;a+:=2;a-:=1;a*:=3;print(a,{1..3},[1,3..7],2**3,1/=2,1<=2,2>=3,1<2,2>1,+/[1,2],*/[2,3],max/[1,2],min/[1,2]);",
            "6 {1, 2, 3} [1, 3, 5, 7] 8 true true false true true 3 6 2 1/");
        prints(7, "var a; a + -- a note\n := \"x\"; print(a);", "!1 at 7");
        faulty("var a; a : = 1;", 2, 9);
        faulty("print(2 * * 3);", 2, 12);
        faulty("print(2 ***3);", 2, 11);
        faulty("print({1 . . 3});", 1, 9);
        faulty("print({1 ... 3});", 1, 11);
        faulty("print(1 < = 2);", 2, 10);
        faulty("print(1 > = 2);", 2, 10);
        faulty("print(1 / = 2);", 2, 8);
        faulty("print(1 => 2);", 2, 9);
        faulty("print(1 =< 2);", 2, 9);
        faulty("var a; a +=1;", 2, 10);
        faulty("var a; a :=: 1;", 2, 11);
        faulty("print(1.);", 1, 7);
        faulty("print(1.5);", 1, 7);
        faulty("print(1).", 1, 8);
        faulty("varx a;", 5, 0);
        faulty("print(nottrue);", 5, 6);
        faulty("print(3div 2);print(3 div2);", 2, 22);
    }

    private static void wordsAreNoNames() {
        for (String word : WORDS.split(" ")) {
            faulty("var " + word + ";", 2, 4);
            accepted("var " + word + "_;", 0);
            String capital = Character.toUpperCase(word.charAt(0)) + word.substring(1);
            accepted("var " + capital + "; " + capital + " := 1;", 1);
        }
        due(4, "so many words", WORDS.split(" ").length, 53);
        accepted("var bags, vars, ifs, x, o, no, nota, fro, fromc, exist, ran, randoms;", 0);
    }

    // ------------------------------------------------ the form of programs

    private static void formOfPrograms() {
        accepted("", 0);
        accepted("proc p(); end; func f() = 1; var a; proc q(rd a, wr b, rw c, d); var e; var f, g; end;", 0);
        accepted("proc p(); p(); end; p();", 2);
        for (String first : "; := + - * ** ( ) { } ] , : | = /= < <= > >= # / .. 7 \"a\" rd wr rw end then elseif else do in notin subset from fromb frome om true false ok and or not div mod exists forall abs arb domain range pow type str char code min max rev newat random".split(" ")) {
            faulty(first, 2, 0);
            faulty(first + " a := 1;", 2, 0);
            faulty("var a; " + first + " a;", 2, 7);
            faulty("proc p(); " + first + " p();", 2, first.equals("end") ? 14 : 10);
        }
        faulty("end;", 2, 0);
        faulty("var;", 2, 3);
        faulty("var a,;", 2, 6);
        faulty("var a", 2, 5);
        faulty("var a; a := 1; var b;", 2, 15);
        faulty("var a; a := 1; func f() = 1;", 2, 15);
        faulty("var a; a := 1; proc p(); end;", 2, 15);
        for (String head : new String[] {"func ", "proc "}) {
            faulty(head + "1() = 1;", 2, 5);
            faulty(head + "\"f\"() = 1;", 2, 5);
            faulty(head + "() = 1;", 2, 5);
            faulty(head + "if() = 1;", 2, 5);
            faulty(head + head, 2, 5);
            faulty(head, 2, 5);
        }
        faulty("func f = 1;", 2, 7);
        faulty("func f() := 1;", 2, 9);
        faulty("func f() = ;", 2, 11);
        faulty("func f(,) = 1;", 2, 7);
        faulty("func f(a,) = 1;", 2, 9);
        faulty("func f(rd a) = 1;", 2, 7);
        faulty("func f() = 1", 2, 12);
        faulty("proc p; end;", 2, 6);
        faulty("proc p() end;", 2, 9);
        faulty("proc p(); end", 2, 13);
        faulty("proc p(); stop;", 2, 15);
        faulty("proc p(rd); end;", 2, 9);
        faulty("proc p(rd wr a); end;", 2, 10);
        faulty("proc p(); stop; var a; end;", 2, 16);
        faulty("proc p(); proc q(); end; end;", 2, 10);
        faulty("proc p(); func f() = 1; end;", 2, 10);
    }

    private static void formOfStatements() {
        accepted("var a; a := 1; a + := 1; a - := 1; a * := 1; [a, -, a(1)] := a; a from a; a fromb a; a frome a; a := ok;", 9);
        accepted("if true then end; if ok then else end; while true do end; for i in {} do end; for i in {}, [j, k] in [] | true do quit; end;", 6);
        accepted("proc p(); return; return 1; end; print(1); print(1, 2); assert true; stop; succeed; fail;", 8);
        faulty("var a; a;", 2, 8);
        faulty("var a; a = 1;", 2, 9);
        faulty("var a; a + 1;", 2, 11);
        faulty("var a; a / := 1;", 2, 9);
        faulty("var a; a div := 1;", 2, 9);
        faulty("var a; a ** := 1;", 2, 9);
        faulty("var a; (a) := 1;", 2, 7);
        faulty("var a; a() := 1;", 2, 9);
        faulty("var a; a(1, 2) := 1;", 2, 10);
        faulty("var a; a{} := 1;", 2, 9);
        faulty("var a; a{1 .. 2} := 1;", 2, 11);
        faulty("var a; a[1] := 1;", 2, 8);
        faulty("var a; [] := 1;", 2, 8);
        faulty("var a; [a,] := 1;", 2, 10);
        faulty("var a; [1] := 1;", 2, 8);
        faulty("var a; [a] + := 1;", 2, 11);
        faulty("var a; [a] from a;", 2, 11);
        faulty("var a; [a] := ok;", 2, 14);
        faulty("var a; a(1) := ok;", 2, 15);
        faulty("var a; a + := ok;", 2, 14);
        faulty("var a; a := (ok);", 2, 13);
        faulty("var a; a := ok and true;", 2, 15);
        faulty("var a; a from 1;", 2, 14);
        faulty("var a; a from a + a;", 2, 16);
        faulty("if true end;", 2, 8);
        faulty("if true then end", 2, 16);
        faulty("if then end;", 2, 3);
        faulty("if ok and true then end;", 2, 6);
        faulty("if true then elseif ok then end;", 2, 20);
        faulty("if true then else else end;", 2, 18);
        faulty("if true then else elseif true then end;", 2, 18);
        faulty("while ok do end;", 2, 6);
        faulty("while true then end;", 2, 11);
        faulty("for i in {} then end;", 2, 12);
        faulty("for i in {} : 1 do end;", 2, 12);
        faulty("for do end;", 2, 4);
        faulty("for [] in {} do end;", 2, 5);
        faulty("for i, j in {} do end;", 2, 5);
        faulty("for [i, -] in {} do end;", 2, 8);
        faulty("for i in 1 = 1 do end;", 2, 11);
        faulty("for i in not true do end;", 2, 9);
        faulty("print();", 2, 6);
        faulty("print(1,);", 2, 8);
        faulty("print 1;", 2, 6);
        faulty("assert;", 2, 6);
        faulty("stop 1;", 2, 5);
        faulty("proc p(); return 1, 2; end;", 2, 18);
        faulty("var a; proc p(); end; a := p()(1);", 2, 30);
        faulty("var a; proc p(); end; a := p() + 1;", 2, 31);
        faulty("proc p(); end; p() := 1;", 2, 19);
    }

    private static void formOfExps() {
        ended("var a; func f(x) = x; a := [1, 2];");
        exps(12, "", "?2 at 0", " ", "?2 at 1", "1 +", "?2 at 3", "()", "?2 at 1", "(1, 2)", "?2 at 2", "{,}", "?2 at 1", "{1,}", "?2 at 3",
            "[1 .. ]", "?2 at 6", "{1, 2, 3 .. 4}", "?2 at 9", "{1 .. 2, 3}", "?2 at 7", "1 = 1 = 1", "?2 at 6", "1 < 2 in {}", "?2 at 6",
            "1 = not true", "?2 at 4", "- not true", "?2 at 2", "not true = false", "true", "not not true", "true",
            "# # a", "!1", "- - 1", "1", "-# a", "-2", "+ 1", "?2 at 2", "* / [2, 3]", "6", "max [1]", "?2 at 4", "max(1)", "?2 at 3", "min / - 1", "!1",
            "2 ** 3 ** 2", "512", "- 2 ** 2", "4", "2 ** - 1", "!4", "+ / [1, 2] ** 2", "9", "* / [2, 3] ** 2", "36", "max / [2, 3] ** 2", "9", "min / [2, 3] ** 2", "4", "2 ** + / [1, 2]", "8", "2 ** max / [1, 3] ** 2", "512", "- + / [1, 2] ** 2", "9", "+ / [1, 2] * 2", "6", "# \"abc\" ** 2 + 1", "10", "# [1] ** 2", "1", "10 - 4 - 3", "3", "2 * 7 mod 4", "2", "7 div 2 * 2", "6",
            "1 + 2 * 3 ** 2", "19", "true or false and false", "true", "false and false or true", "true",
            "abs 1", "?2 at 4", "abs()", "?2 at 4", "abs(1, 2)", "?2 at 5", "newat", "?2 at 0", "ok", "?2 at 0", "if true then 1 end", "?2 at 15",
            "if true then 1 else 2", "?2 at 21", "if ok then 1 else 2 end", "?2 at 3", "exists x in a", "?2 at 13", "exists x in a : x = 1", "?2 at 14",
            "exists | true", "?2 at 7", "{for x in a}", "?2 at 11", "{for x in a | true}", "?2 at 18", "{for x in a : x, 1}", "?2 at 15", "{for : 1}", "?2 at 5",
            "[for x in a | x > 1 : x]", "[2]", "if true then [7, 8] else 1 end(2)", "8", "[7, 8](2)", "8", "\"abc\"(2)(1)", "\"b\"", "{[1, 2]}{1}", "{2}",
            "f(a)(1)", "1", "(a)(1)", "1", "a(1)(1)", "!1", "1(1)", "!1", "f()", "?6 at 2", "f", "?5 at 0", "exists x in a | x = 1 or 1 div 0 = 1", "true",
            "1 in a and 2 in a", "true", "{1} subset {1} + {2}", "true", "random(1)", "1", "a := 1", "?2 at 2", "1;", "?2 at 1", "print(1)", "?2 at 0");
        exps(12, "forall x in a | x > 0 and exists y in a | y > x or y = 2", "true", "(forall x in a | x > 0) and false", "false",
            "[for x in a, y in [x .. 2] | x + y > 2 : [x, y]]", "[[1, 2], [2, 2]]", "{for x in a + a : x}", "{1, 2}",
            "exists x in a | exists y in a | x + y = 4", "true", "not exists x in a | x = 3", "true");
    }

    /** Where an exp may stand it may be one of or, the widest of all. */
    private static void expsOfOrEverywhere() {
        String or = "false or true";
        prints(7, "var a, t, f; func g(x, y) = x or y; proc p(x, y); return x or y; end; t := false or true; f := {[true, 1]}; [a] := [false or true, false or false]; print(a, t, false or true, g(false or true, false or false)); "
            + "if false or false then print(1); elseif false or true then print(2); end; while false or t do t := false; end; for i in {1} | false or true do print(3); end; a := p(false or false, false or true); print(a); "
            + "assert false or true; f(false or true) := false or true; print(f); f{false or false} := {false or true}; print(f); print(f(false or true), f{false or false});",
            "true true true true/2/3/true/{[true, true]}/{[false, true], [true, true]}/true {true}/");
        errs(7, "var a; a := 1; @a + := false or true;", "", 1);
        errs(7, "var a; @[a] := false or true;", "", 1);
        errs(7, "var a; a := [1]; @a(1 .. false or true) := [];", "", 1);
        errs(7, "var a; a := [1]; @a(false or true .. 1) := [];", "", 1);
        started("var t; t := [1];");
        x.step(1);
        exps(12, or, "true", "(" + or + ")", "true", "[" + or + "]", "[true]", "{" + or + ", " + or + "}", "{true}", "[1, " + or + ", 2]", "[1, true, 2]", "{" + or + " .. 1}", "!1", "{1 .. " + or + "}", "!1", "[1, " + or + " .. 2]", "!1",
            "[1, 2 .. " + or + "]", "!1", "t(" + or + ")", "!1", "t(" + or + " .. 1)", "!1", "t(1 .. " + or + ")", "!1", "t{" + or + "}", "!1", "{[true, 5]}(" + or + ")", "5", "{[true, 5]}{" + or + "}", "{5}",
            "{for i in t | " + or + " : " + or + "}", "{true}", "[for i in t : " + or + "]", "[true]", "exists i in t | " + or, "true", "forall i in t | false or false", "false",
            "if " + or + " then " + or + " else 1 end", "true", "if false then 1 elseif " + or + " then " + or + " else 1 end", "true", "if false then 1 else " + or + " end", "true", "type(" + or + ")", "\"truth\"", "str(" + or + ")", "\"true\"",
            "abs(" + or + ")", "!1", "random(" + or + ")", "!1", "exists i in t, j in [" + or + "] | j", "true");
        // The row that an iter goes over is but a sum.
        exps(12, "exists i in t or true | true", "?2 at 14", "exists i in t and true | true", "?2 at 14", "exists i in t = t | true", "?2 at 14", "{for i in t in t : 1}", "?2 at 12", "{for i in not t : 1}", "?2 at 10", "{for i in t + t : 1}", "{1}",
            "{for i in (t = t or true) : 1}", "!1");
    }

    /** Operators of all levels that wait for what stands behind them, within one another. */
    private static void operatorsThatWait() {
        started("var t; t := [1];");
        String[] before = {"if false or true and 1 = 1 + 0 * ", "if true and true and 1 <= 1 + 1 * ", "if false or false or 3 > 2 - 1 * ", "+ / [1, 0 * "};
        String[] behind = {" then 1 else 0 end", " then 1 else 0 end", " then 1 else 0 end", "]"};
        int[] each = {1, 1, 1, 2};
        for (int i = 0; i < before.length; i++) {
            int most = 20 / each[i];
            due(12, "twenty of " + before[i], worked(repeated(before[i], most) + "5" + repeated(behind[i], most)), "1");
            String first = worked(repeated(before[i], most + 1) + "5" + repeated(behind[i], most + 1));
            due(12, "twenty-one of " + before[i], first, "?3 at " + most * before[i].length());
        }
    }

    // ------------------------------------------------ names

    private static void namesThatAreSeen() {
        prints(7, "var x; func f(x) = {for x in x : x}; proc p(x); for x in [x] do print(x); end; print(x); end; x := 1; p(2); print(f({3}), x);", "2/2/{3} 1/");
        prints(7, "var x; x := {1, 2}; print({for x in x, y in {x} : [x, y]}, x);", "{[1, 1], [2, 2]} {1, 2}/");
        prints(7, "var x; x := [5]; for x in x, y in [x] | x = y do print(x, y); end; print(x);", "5 5/[5]/");
        prints(7, "var x; proc x2(); var x; x := 3; print(x); end; x := 1; x2(); print(x);", "3/1/");
        prints(7, "var x; proc p(p); print(p); end; func g(g) = g; x := g(4); p(x);", "4/");
        prints(7, "func f(x) = x + 1; print({for f in [[7]] : f(1)}, f(1));", "{7} 2/");
        faulty("func f() = a; var a;", 5, 11);
        faulty("proc p(); a := 1; end; var a;", 5, 10);
        faulty("proc p(); q(); end; proc q(); end;", 5, 10);
        faulty("func f() = g(); func g() = 1;", 5, 11);
        faulty("func f(x) = x; print(x);", 5, 21);
        faulty("proc p(x); end; print(x);", 5, 22);
        faulty("for i in {} do end; print(i);", 5, 26);
        faulty("for i in {i} do end;", 5, 10);
        faulty("for i in {}, j in {k}, k in {} do end;", 5, 19);
        faulty("print((exists i in {} | true) and i = 1);", 5, 34);
        faulty("print({for i in {} : i} + {i});", 5, 27);
        faulty("var v; v := {for i in {} | v = i : i}; v := i;", 5, 44);
        accepted("var i; for i in {i} do print(i); end;", 2);
    }

    // ------------------------------------------------ faults 3: twenty are open

    /** The kind's token stands behind the sign @ ; so many others of its own are open before it. */
    private static void openExp(String exp, int own) {
        int at = exp.indexOf('@');
        String plain = exp.replace("@", "");
        int last = 19 - own;
        String within = worked(repeated("(", last) + plain + repeated(")", last));
        due(5, "the twentieth: " + exp, within.startsWith("?"), false);
        due(5, "the twenty-first: " + exp, worked(repeated("(", last + 1) + plain + repeated(")", last + 1)), "?3 at " + (last + 1 + at));
    }

    private static void kindsThatAreOpen() {
        ended("var a; func f(x) = x; a := [1, 2];");
        for (String exp : new String[] {"@(1)", "@[1]", "@{1}", "@[]", "@{}", "@[1 .. 2]", "@{1, 2 .. 3}", "@{for x in a : x}", "@[for x in a : x]",
            "f@(1)", "a@(1)", "a@(1 .. 2)", "a@{1}", "abs@(1)", "random@(1)", "str@(1)", "@not true", "1 @** 2", "@- 1", "@# a", "@+ / a", "@* / a",
            "@max / a", "@min / a", "@exists x in a | true", "@forall x in a | true", "@if true then 1 else 2 end"}) {
            openExp(exp, 0);
        }
        openExp("{for @[x] in a : x}", 1);
        openExp("exists @[x] in a | true", 1);
        openExp("- @- 1", 1);
        openExp("not @not true", 1);
        openExp("1 ** 1 @** 1", 1);
        openExp("+ / @{1}", 1);
        openExp("if @(true) then 1 else 2 end", 1);
        openExp("if true then 1 elseif true then @(2) else 3 end", 1);
        openExp("a(@- 1)", 1);
        openExp("1 ** @(1)", 1);
        openExp("exists x in a | @[x] = x", 1);
        openExp("exists x in @[1] | true", 1);
        openExp("{for x in a | @(true) : x}", 1);
    }

    /** Behind its end one is not open any more. */
    private static void kindsThatAreClosed() {
        ended("var a; func f(x) = x; a := [1, 2];");
        String before = repeated("(", 19);
        String behind = repeated(")", 19);
        for (String exp : new String[] {"(1) + (2)", "- 1 + - 1 - - 1", "# a + # a * # a", "not true and not true or not false", "2 ** 2 * 2 ** 2 + 2 ** 2",
            "- 2 ** 2", "# a ** 2", "[] = []", "{} = {}", "f(1) + f(2)", "a(1) + a(2)", "if true then 1 else 2 end + if true then 1 else 2 end", "+ / a + + / a",
            "max / a - min / a", "a(1)(1 .. 2){3}", "{for x in a : x} + {for y in a : y}", "abs(1) + abs(2)"}) {
            String answer = worked(before + exp + behind);
            due(5, "twenty, one behind the other: " + exp, answer.startsWith("?") ? answer : "read", "read");
        }
        exps(12, repeated("(", 18) + "(exists x in a | x = 1) and (exists x in a | x = 2)" + repeated(")", 18), "true",
            repeated("- ", 20) + "1", "1", repeated("- ", 21) + "1", "?3 at 40", repeated("not ", 20) + "true", "true", repeated("not ", 21) + "true", "?3 at 80",
            "1" + repeated(" ** 1", 20), "1", "1" + repeated(" ** 1", 21), "?3 at 102", "1" + repeated(" ** 1 * 1", 60), "1",
            repeated("exists x in a | ", 20) + "true", "true", repeated("exists x in a | ", 21) + "true", "?3 at 320",
            repeated("{", 20) + repeated("}", 20), repeated("{", 20) + repeated("}", 20), repeated("{", 21) + repeated("}", 21), "?3 at 20");
        exps(12, repeated("(", 20) + "1 [", "?2 at 22", repeated("(", 20) + "1 not", "?2 at 22", repeated("(", 20) + "1 if", "?2 at 22",
            repeated("(", 20) + "1 - not", "?2 at 24", repeated("(", 20) + "$", "?1 at 20", repeated("(", 21) + "$", "?3 at 20", repeated("(", 20) + "max 1", "?3 at 20",
            repeated("(", 19) + "max 1", "?2 at 23");
    }

    private static void statementsThatAreOpen() {
        String[] opening = {"if true then ", "while true do ", "for i in s do "};
        for (String first : opening) {
            for (String last : opening) {
                accepted("var s;" + repeated(first, 19) + last + repeated("end; ", 20), 20);
                faulty("var s;" + repeated(first, 20) + last, 3, 6 + 20 * first.length());
            }
        }
        String ifs = repeated("if true then ", 19);
        String ends = repeated("end; ", 19);
        accepted(ifs + "print(1);" + ends, 20);
        faulty(ifs + "print((1));" + ends, 3, 19 * 13 + 6);
        accepted("var a; " + ifs + "[a, -] := a;" + ends, 20);
        faulty("var a; " + ifs + "[a(1), -] := a;" + ends, 3, 7 + 19 * 13 + 2);
        faulty("var a; if true then " + ifs + "[a] := a;", 3, 7 + 20 * 13);
        accepted("proc p(); end; " + ifs + "p();" + ends, 20);
        faulty("proc p(); end; if true then " + ifs + "p();", 3, 15 + 20 * 13 + 1);
        faulty("var a; proc p(); end; if true then " + ifs + "a := p();", 3, 22 + 20 * 13 + 6);
        accepted("var a; " + ifs + "a(1) := a{1};" + ends, 20);
        faulty("var a; if true then " + ifs + "a(1) := 1;", 3, 7 + 20 * 13 + 1);
        faulty("var a; if true then " + ifs + "a{1} := 1;", 3, 7 + 20 * 13 + 1);
        faulty("var a; if true then " + ifs + "a := - 1;", 3, 7 + 20 * 13 + 5);
        accepted("var a; " + ifs + "for i in a do end; for j in a do end; while a do end; if a then elseif a then else end; a := a;" + ends, 24);
        faulty(ifs + "for [i] in {} do end;", 3, 19 * 13 + 4);
        faulty(ifs + "while - 1 = 1 do end;", 3, 19 * 13 + 6);
        accepted(ifs + "if true then elseif true then elseif true then else stop; end; " + ends, 21);
        accepted(repeated("if true then end; ", 50), 50);
    }

    // ------------------------------------------------ faults 4 to 8

    private static void toldTwice() {
        String[] heads = {"var a;", "func a() = 1;", "proc a(); end;"};
        int[] places = {4, 5, 5};
        for (String first : heads) {
            for (int k = 0; k < heads.length; k++) {
                faulty(first + heads[k], 4, first.length() + places[k]);
            }
        }
        faulty("var a, b, a;", 4, 10);
        faulty("func f(a, b, a) = 1;", 4, 13);
        faulty("proc p(a, wr a); end;", 4, 13);
        faulty("proc p(a); var a; end;", 4, 15);
        faulty("proc p(); var a; var a; end;", 4, 21);
        accepted("var a; func f(a, f) = a; proc p(a); var f, p; end; proc q(a, p); end;", 0);
        accepted("proc p(a); end; proc q(a); end; func f(a) = a; var a;", 0);
        faulty("print({for i in {}, i in {} : 1});", 4, 20);
        faulty("print({for [i, i] in {} : 1});", 4, 15);
        faulty("print({for [i, j] in {}, [k, j] in {} : 1});", 4, 29);
        faulty("for i in {}, i in {} do end;", 4, 13);
        accepted("var i; for i in {} do for i in {i} do print({for i in {i} : {for i in {i} : i}}, exists i in {i} | i = 1); end; end;", 3);
        faulty("var a, a$", 4, 7);
        faulty("func a() = 1; func a$", 4, 19);
        faulty("for i in {}, i $", 4, 13);
    }

    private static void notTold() {
        String head = "var v; func f() = 1; proc p(); end; ";
        int n = head.length();
        faulty(head + "u := 1;", 5, n);
        faulty(head + "u;", 5, n);
        faulty(head + "u(1);", 5, n);
        faulty(head + "v := u;", 5, n + 5);
        faulty(head + "v := u(1);", 5, n + 5);
        faulty(head + "f := 1;", 5, n);
        faulty(head + "f();", 5, n);
        faulty(head + "f;", 5, n);
        faulty(head + "p := 1;", 5, n);
        faulty(head + "p;", 5, n);
        faulty(head + "v := p;", 5, n + 5);
        faulty(head + "v := f;", 5, n + 5);
        faulty(head + "v := f + 1;", 5, n + 5);
        faulty(head + "v := p + 1;", 5, n + 5);
        faulty(head + "v + := p();", 5, n + 7);
        faulty(head + "v := 1 + p();", 5, n + 9);
        faulty(head + "v := (p());", 5, n + 6);
        faulty(head + "v := - p();", 5, n + 7);
        faulty(head + "[v] := p();", 5, n + 7);
        faulty(head + "[f] := v;", 5, n + 1);
        faulty(head + "[p] := v;", 5, n + 1);
        faulty(head + "[u] := v;", 5, n + 1);
        faulty(head + "v from f;", 5, n + 7);
        faulty(head + "v from p;", 5, n + 7);
        faulty(head + "v from u;", 5, n + 7);
        faulty(head + "f from v;", 5, n);
        faulty(head + "p from v;", 5, n);
        faulty(head + "print(p());", 5, n + 6);
        faulty(head + "for i in p() do end;", 5, n + 9);
        faulty(head + "for i in f do end;", 5, n + 9);
        faulty(head + "u $", 1, n + 2);
        faulty(head + "v := u $", 1, n + 7);
        faulty(head + "v := p $", 1, n + 7);
        faulty(head + "f $", 1, n + 2);
        faulty(head + "[u $", 1, n + 3);
        faulty(head + "v from p $", 1, n + 9);
        faulty(head + "u", 5, n);
        accepted(head + "v := p(); v := f(); p();", 3);
        started(head);
        exps(12, "u", "?5 at 0", "f", "?5 at 0", "p()", "?5 at 0", "p", "?5 at 0", "f()", "1", "v(u)", "?5 at 2", "u $", "?1 at 2");
    }

    private static void numbersOfExps() {
        StringBuilder given = new StringBuilder();
        for (int params = 0; params <= 8; params++) {
            String heads = "func f(" + names("a", params) + ") = 1; proc p(" + names("a", params) + "); end; ";
            for (int n = 0; n <= 9; n++) {
                given.setLength(0);
                for (int i = 0; i < n; i++) {
                    given.append(i == 0 ? "1" : ", 1");
                }
                String func = heads + "print(f(" + given;
                String proc = heads + "p(" + given;
                if (n == params) {
                    accepted(func + ")); p(" + given + ");", 2);
                } else {
                    faulty(func + "));", 6, func.length());
                    faulty(proc + ");", 6, proc.length());
                }
            }
        }
        faulty("func f() = 1; print(f(1)$", 6, 23);
        faulty("func f(a) = 1; print(f(1 1));", 2, 25);
        faulty("func f(a) = 1; print(f(1$));", 1, 24);
        // A token that cannot stand there comes before the number of exps, which is looked at at the ) .
        faulty("func f(a, b) = 1; print(f(1 1));", 2, 28);
        faulty("func f(a, b) = 1; print(f(1;", 2, 27);
        faulty("func f() = 1; print(f(1;", 2, 23);
        faulty("func f(a) = 1; print(f(;", 2, 23);
        faulty("proc p(a, b); end; p(1 1);", 2, 23);
        faulty("proc p(a, b); end; p(1];", 2, 22);
        faulty("proc p(); end; p(1;", 2, 18);
        faulty("proc p(a); end; p(;", 2, 18);
    }

    private static void targetsForWrAndRw() {
        String head = "var a, b; func f(x) = x; proc p(wr x); end; proc q(rd x, rw y); end; ";
        int n = head.length();
        for (String target : new String[] {"a", "a(1)", "a{1}", "a(1 .. 2)", "a(1)(2){3}(4 .. 5)", "a(f(1))", "a((1))"}) {
            accepted(head + "p(" + target + "); q(1, " + target + ");", 2);
        }
        for (String exp : new String[] {"(a)", "(a)(1)", "a + 1", "- a", "# a", "1", "\"x\"", "om", "f(a)", "[a]", "{a}", "not a", "a and b", "a = b", "a ** 1", "a * 1",
            "if a then a else b end", "exists x in a | x", "abs(a)", "a(1) + a(2)"}) {
            faulty(head + "p(" + exp + ");", 6, n + 2);
            faulty(head + "q(1, " + exp + ");", 6, n + 5);
        }
        accepted(head + "q(a + 1, a);", 1);
        faulty(head + "p(a + 1 $", 1, n + 8);
        faulty(head + "p(a + 1 1);", 6, n + 2);
        faulty(head + "p(1, $", 6, n + 2);
        faulty(head + "p(1$", 1, n + 3);
        faulty(head + "p(a, 1);", 6, n + 6);
        faulty(head + "q(1, a, a);", 6, n + 9);
        faulty(head + "q(1);", 6, n + 3);
        faulty(head + "p(u + 1);", 5, n + 2);
        faulty(head + "p(f);", 5, n + 2);
        accepted(head + "for i in a do p(i); p(i(1)); end;", 3);
    }

    private static void outsideOfLoopsAndProcs() {
        faulty("quit;", 7, 0);
        faulty("continue;", 7, 0);
        faulty("return;", 7, 0);
        faulty("return 1;", 7, 0);
        faulty("if true then quit; end;", 7, 13);
        faulty("while true do end; quit;", 7, 19);
        faulty("for i in {} do end; continue;", 7, 20);
        faulty("while true do return; end;", 7, 14);
        faulty("proc p(); quit; end;", 7, 10);
        faulty("proc p(); if true then continue; end; end;", 7, 23);
        faulty("quit $", 7, 0);
        faulty("return $", 7, 0);
        accepted("while true do quit; continue; if true then quit; else continue; end; end;", 6);
        accepted("for i in {} do quit; continue; while true do quit; end; quit; end;", 6);
        accepted("proc p(); return; while true do quit; return; end; for i in {} do continue; return i; end; end;", 7);
        faulty("proc p(); while true do end; end; continue;", 7, 34);
    }

    private static void sixtyVariables() {
        String all = "var " + names("v", 60);
        accepted(all + ";", 0);
        due(19, "variables", x.count(2), 60);
        faulty(all + ", v60;", 8, all.length() + 2);
        faulty(all + ", v60$", 8, all.length() + 2);
        faulty(all + ", v7;", 4, all.length() + 2);
        faulty(all + "; var w;", 8, all.length() + 6);
        String fewer = "var " + names("v", 58) + "; ";
        accepted(fewer + "for i in {} do print({for j in {} : j}); end;", 2);
        due(19, "variables, names of iters too", x.count(2), 60);
        faulty(fewer + "for i in {} do print({for j in {} : j}); end; for k in {} do end;", 8, fewer.length() + 50);
        faulty(fewer + "print({for [i, j, k] in {} : 1});", 8, fewer.length() + 18);
        faulty(fewer + "print(exists i in {}, j in {}, k in {} | true);", 8, fewer.length() + 31);
        accepted(fewer + "for [i, j] in {} do end;", 1);
        accepted(fewer + "func f(a, b, c) = {for i in a : i}; proc p(a, b); var c; end; proc q(); for i in {} do end; end;", 1);
        String inProc = "proc p(" + names("a", 8) + "); var " + names("v", 52);
        accepted(inProc + "; end;", 0);
        faulty(inProc + ", w; end;", 8, inProc.length() + 2);
        faulty(inProc + "; for i in {} do end; end;", 8, inProc.length() + 6);
        faulty(inProc + "; print(1, exists i in {} | true); end;", 8, inProc.length() + 18);
        String inFunc = "func f(" + names("a", 8) + ") = {for [" + names("i", 52);
        accepted(inFunc + "] in {} : 1};", 0);
        faulty(inFunc + ", w] in {} : 1};", 8, inFunc.length() + 2);
        faulty(inFunc + "] in {} : 1} + {for w in {} : 1};", 8, inFunc.length() + 20);
    }

    private static void sixtyVariablesOfViews() {
        started("var " + names("v", 60) + ";");
        String all = "{for [" + names("i", 60);
        exps(12, all + "] in {} : 1}", "{}", all + ", w] in {} : 1}", "?8 at " + (all.length() + 2), all + "] in {} : 1} + {for w in {} : 1}", "?8 at " + (all.length() + 20),
            all + ", i3] in {} : 1}", "?4 at " + (all.length() + 2), "{for v0 in [v0, 1] : v0}", "!3");
        feed(all + "] in {} : 1}");
        due(13, "a view of sixty variables", x.view(), 0);
        feed(all + ", w] in {} : 1}");
        due(13, "a view of sixty-one", x.view() + " " + x.fault(), (-1 - all.length() - 2) + " 8");
        feed("{for w in {} : 1}");
        due(13, "each view has its own", x.view(), 1);
        feed(repeated("(", 20) + "1" + repeated(")", 20));
        due(13, "a view of twenty open", x.view(), 2);
        feed(repeated("(", 21) + "1" + repeated(")", 21));
        due(13, "a view of twenty-one", x.view() + " " + x.fault(), "-21 3");
    }

    private static void fortyFuncsAndProcs() {
        StringBuilder units = new StringBuilder();
        for (int i = 0; i < 40; i++) {
            units.append(i % 2 == 0 ? "func u" + i + "() = 1;" : "proc u" + i + "(); end;");
        }
        accepted(units.toString(), 0);
        due(19, "procs without funcs", x.count(3), 20);
        faulty(units + "func f() = 1;", 8, units.length() + 5);
        faulty(units + "proc f(); end;", 8, units.length() + 5);
        faulty(units + "proc u3(); end;", 4, units.length() + 5);
        faulty(units + "proc f$", 8, units.length() + 5);
        accepted(units + "var " + names("v", 60) + ";", 0);
    }

    private static void eightParams() {
        String func = "func f(" + names("a", 8);
        accepted(func + ") = 1;", 0);
        faulty(func + ", b) = 1;", 8, func.length() + 2);
        faulty(func + ", a1) = 1;", 4, func.length() + 2);
        faulty(func + ", b$", 8, func.length() + 2);
        String proc = "proc p(wr a, rw b, rd c, " + names("a", 5);
        accepted(proc + "); end;", 0);
        faulty(proc + ", d); end;", 8, proc.length() + 2);
        faulty(proc + ", rw d); end;", 8, proc.length() + 5);
        faulty(proc + ", rw c); end;", 4, proc.length() + 5);
    }

    private static void fourHundredStatements() {
        accepted(repeated("stop;", 400), 400);
        faulty(repeated("stop;", 401), 8, 2000);
        faulty(repeated("stop;", 400) + ";", 2, 2000);
        faulty(repeated("stop;", 400) + "$", 1, 2000);
        faulty(repeated("stop;", 400) + "u $", 8, 2000);
        faulty(repeated("stop;", 400) + "quit;", 8, 2000);
        faulty(repeated("stop;", 400) + "return;", 8, 2000);
        faulty(repeated("stop;", 400) + "if true then end;", 8, 2000);
        String nested = repeated("if true then ", 20) + repeated("stop;", 380);
        accepted(nested + repeated("end;", 20), 400);
        faulty(nested + "stop;", 8, nested.length());
        faulty(nested + "if", 3, nested.length());
        faulty(nested + "[", 3, nested.length());
        faulty(nested + "while", 3, nested.length());
        faulty(nested + "for", 3, nested.length());
        String procs = "proc p(); " + repeated("stop;", 200) + "end; proc q(); " + repeated("stop;", 199) + "end; ";
        accepted(procs + "stop;", 400);
        faulty(procs + "stop; stop;", 8, procs.length() + 6);
        faulty("proc p(); " + repeated("stop;", 400) + "stop; end;", 8, 10 + 2000);
    }

    // ------------------------------------------------ the tape

    private static void theTape() {
        x = new House();
        for (int i = 0; i < 511; i++) {
            x.feed(0x20202020, 0x20202020, 0x20202020, 0x20202020, 0x20202020);
        }
        due(2, "as long as 512 calls make it", x.program(), 0);
        x = new House();
        due(2, "bytes, the highest of each first", x.feed(0x76617220, 0x61203b61, 0x3a3d7b31, 0x2e2e357d, 0x3b7072ff), 20);
        x.end(17);
        due(3, "its first n", x.count(0), 17);
        due(2, "what they say", x.program() + " " + x.count(1), "1 1");
        x.feed(-1, -1, -1, -1, -1);
        due(5, "a byte 255 is no token", x.program() + " " + x.fault(), "-1 1");
        x.feed(0, 0, 0, 0, 0);
        due(5, "nor is a byte 0", x.program() + " " + x.fault(), "-1 1");
    }

    private static String fed(SetHouse tape) {
        try {
            return String.valueOf(tape.feed(0x20202020, 0x20202020, 0x20202020, 0x20202020, 0x20202020));
        } catch (UnsupportedOperationException e) {
            return "no room";
        }
    }

    /** A tape can be full only beyond 512 calls, whose answers are free: it holds of this class, at least. */
    private static void theFullTape() {
        SetHouse tape = new SetHouse();
        for (int i = 0; i < 1637; i++) {
            tape.feed(0x20202020, 0x20202020, 0x20202020, 0x20202020, 0x20202020);
        }
        due(2, "nearly full", fed(tape) + " " + fed(tape) + " " + tape.count(0), "32760 no room 32760");
        tape.end(32749);
        due(2, "one too many", fed(tape) + " " + tape.count(0), "no room 32749");
        tape.end(32748);
        due(2, "just full", fed(tape) + " " + fed(tape) + " " + tape.count(0), "32768 no room 32768");
        due(2, "a full tape of blanks", tape.program() + " " + tape.fault() + " " + tape.count(0), "0 0 0");
    }

    /** A text is fed and cut to its first n bytes: what stood behind them is not there. */
    private static void cut(String text, int n, String want) {
        feed(text);
        x.end(n);
        int answer = x.work();
        due(3, text + " cut to " + n, answer >= 0 ? shown() : "?" + x.fault() + " at " + (-100 - answer), want);
    }

    private static void tapesThatAreCut() {
        started("var ab, t; ab := [7, 8]; t := 5;");
        x.step(2);
        cut("1 <= 2", 3, "?2 at 3");
        cut("1 >= 2", 3, "?2 at 3");
        cut("1 /= 2", 3, "?2 at 2");
        cut("2 ** 2", 3, "?2 at 3");
        cut("{1 .. 2}", 4, "?1 at 3");
        cut("t -- 2", 3, "?2 at 3");
        cut("12", 1, "1");
        cut("t12", 1, "5");
        cut("abc", 2, "[7, 8]");
        cut("ab(1)", 2, "[7, 8]");
        cut("\"ab\"", 3, "?1 at 0");
        cut("\"\"", 1, "?1 at 0");
        cut("t := 1", 3, "?2 at 2");
        cut("t + 1", 1, "5");
        cut("t + 1 ", 5, "6");
        cut("", 0, "?2 at 0");
        feed("t-");
        feed("-1");
        x.end(2);
        feed(" 1");
        due(3, "and fed again", worked(""), "4");
        feed("abc");
        x.end(2);
        due(11, "a name that is cut", x.value() + shown(), "6[7, 8]");
        feed("ab");
        x.end(1);
        throwsDue(11, "cut too short", "IllegalArgumentException", () -> x.value());
        due(11, "the tape stays", x.count(0), 1);
    }

    /** One program behind the other in one object: nothing of those before is left, with a fault or without one. */
    private static void programsInARow() {
        x = new House();
        String[] texts = {"var a, b; func f(x) = x; proc p(wr x, rw y); var z; z := 1; end; proc q(); end; a := f(1); p(a, b); for i in {1} do q(); end;",
            "print({for a in [1], b in $",
            "var a; proc p(x, y); print(x, y); end; a := {for i in {1 .. 3} : i}; p(a + {4}, 7); print(a);",
            "print({for a in [1], b in [2] : c",
            "var b; proc r(x); end; func p(y, z) = y + z; b := 1; r(b + p(1, 2)); print(b, p(b, 1));",
            "var a, b; for [a, c] in {[1, 2]} do for d in {} do quit; end; print(e); end;",
            "",
            "proc p(); var a, b, c; for d in {1} do stop; end; end; p();",
            "proc p(",
            "var a, c, d; proc p(x); var a; a := x; return a; end; a := p(1); c := p(2); d := [a, c]; print(d);"};
        String[] counts = {"5 3 2 0", null, "4 2 1 0", null, "3 1 1 0", null, "0 0 0 0", "3 0 1 0", null, "6 3 1 0"};
        // TOTAL, bytes printed, its error, that it has ended.
        String[] ends = {"3 0 0 1", null, "7 25 0 1", null, "2 4 0 1", null, "0 0 0 1", "8 0 0 1", null, "9 7 0 1"};
        String last = "0 0 0 0";
        for (int turn = 0; turn < 2; turn++) {
            for (int i = 0; i < texts.length; i++) {
                int answer = program(texts[i]);
                due(4, "a fault or none: " + texts[i], (answer < 0) + " " + (x.fault() != 0), (counts[i] == null) + " " + (counts[i] == null));
                last = counts[i] == null ? last : counts[i];
                due(19, "what there is behind " + texts[i], x.count(1) + " " + x.count(2) + " " + x.count(3) + " " + x.count(4), last);
                if (counts[i] != null) {
                    x.start(i);
                    due(12, "an exp between", worked("1 + 1"), "2");
                    x.step(100);
                    String total = x.state(6) + " ";
                    due(9, "its end: " + texts[i], total + x.state(1) + " " + x.state(2) + " " + x.state(8), ends[i]);
                }
            }
        }
    }

    /** Params are what this program says, whatever they were in those before it. */
    private static void paramsInARow() {
        String[] texts = {"var a; proc p(wr x, rw y, wr z); x := 1; y := 2; z := 3; end; p(a, a, a); print(a);", "var a; proc p(x, y, z); x := 5; end; a := 7; p(a, a + 1, 2); print(a);",
            "var a; proc p(rd x, rw y, x2); y := x; end; p(4, a, 1); print(a);", "var a; func p(x) = x * 2; proc q(wr x); x := p(4); end; q(a); print(a);"};
        String[] printed = {"3", "7", "4", "8"};
        for (int first = 0; first < 4; first++) {
            for (int second = 0; second < 4; second++) {
                x = new House();
                for (int i : new int[] {first, second, first, second, second, first, first}) {
                    due(4, "once more: " + texts[i], program(texts[i]) + " " + x.fault(), (i == 0 ? 5 : i == 1 ? 4 : 3) + " 0");
                    x.start(1);
                    x.step(20);
                    due(7, "what it prints", output(), printed[i] + "\n");
                }
            }
        }
    }

    private static void fortyUnitsAgain() {
        x = new House();
        StringBuilder units = new StringBuilder();
        for (int i = 0; i < 40; i++) {
            units.append(i % 2 == 0 ? "func u" + i + "()=1;" : "proc u" + i + "();end;");
        }
        for (int i = 0; i < 5; i++) {
            due(4, "forty funcs and procs once more", program(units.toString()) + " " + x.fault() + " " + x.count(3), "0 0 20");
            due(4, "forty-one", program(units + "func f()=1;") + " " + x.fault(), (-1 - units.length() - 5) + " 8");
        }
    }

    /** Names of iters in a text with a fault are not told behind it. */
    private static void faultsTellNothing() {
        started("var a; a := 1;");
        x.step(1);
        for (String text : new String[] {"{for zz in [1] : zz $", "{for zz in [1] | zz = yy : 1}", "exists zz in [1], yy in [zz] | $", "{for [zz, yy] in [[1, 2]] : )", "{for zz in {for yy in $", "[for zz in [1] : exists yy in [zz] | (yy"}) {
            due(12, "a fault in " + text, work(text) < -99, true);
            exps(12, "zz", "?5 at 0", "yy + a", "?5 at 0", "{for a in [a, 2] : a}", "{1, 2}", "a", "1");
            feed(text);
            due(13, "a fault in " + text, x.view() < 0, true);
            exps(12, "zz", "?5 at 0", "yy", "?5 at 0");
            feed("zz");
            throwsDue(11, "no var", "IllegalArgumentException", () -> x.value());
            x.end(0);
        }
        for (String text : new String[] {"print({for a in [1] : $", "print({for a in $", "for a in [1], b in {} do $", "print(exists a in [1], b in a | c);", "var c, d; for [a, b] in a do"}) {
            x = new House();
            due(4, "a fault in " + text, program(text) < 0, true);
            due(5, "no name is told twice, none is lost", program("var a, b; a := 1; b := a; print(b);") + " " + x.fault(), "3 0");
            due(5, "nor is one too many told", program("var c; print(a);") + " " + x.fault(), "-14 5");
            due(5, "once more", program("var b; func a(c) = c; b := a(1);") + " " + x.fault(), "1 0");
        }
    }

    private static void placesOfFaults() {
        x = new House();
        due(5, "at the tape's length", program("var a") + " " + x.fault(), "-6 2");
        due(5, "blanks count", program("var a   ") + " " + x.fault(), "-9 2");
        due(5, "notes count", program("var a -- b") + " " + x.fault(), "-11 2");
        due(5, "none", program("") + " " + x.fault(), "0 0");
        due(5, "the first one from the left", program("u := $;") + " " + x.fault(), "-1 5");
        due(5, "the first one from the left", program("var a; a := (1; u := 1;") + " " + x.fault(), "-15 2");
    }

    public static void main(String[] args) {
        namesOfSixteenBytes();
        namesThatDifferAtOnePlace();
        numbersOfSixtyDigits();
        stringsOfHundredBytes();
        blanksAndNotes();
        tokensAsLongAsMayBe();
        wordsAreNoNames();
        formOfPrograms();
        formOfStatements();
        formOfExps();
        expsOfOrEverywhere();
        operatorsThatWait();
        namesThatAreSeen();
        kindsThatAreOpen();
        kindsThatAreClosed();
        statementsThatAreOpen();
        toldTwice();
        notTold();
        numbersOfExps();
        targetsForWrAndRw();
        outsideOfLoopsAndProcs();
        sixtyVariables();
        sixtyVariablesOfViews();
        fortyFuncsAndProcs();
        eightParams();
        fourHundredStatements();
        theTape();
        theFullTape();
        tapesThatAreCut();
        programsInARow();
        paramsInARow();
        fortyUnitsAgain();
        faultsTellNothing();
        placesOfFaults();
        finish();
    }
}
