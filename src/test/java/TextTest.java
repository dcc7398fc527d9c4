/** Promises 1 to 5, 19 to 23 and 26: the tape, the reader, its errors, and what is known of a text. */
public final class TextTest {
    public static void main(String[] args) {
        newObject();
        tape();
        loading();
        manyLoads();
        tokens();
        cutTokens();
        grammar();
        depth();
        tokenCount();
        unknownNames();
        repeatedNames();
        misplaced();
        assignments();
        limits();
        orderOfErrors();
        whatIsKnown();
        words();
        Bench.end("TextTest");
    }

    private static void newObject() {
        EmberScript x = new EmberScript();
        Bench.is("state of a new object", x.state(), 1);
        Bench.is("steps of a new object", x.steps(), 0);
        Bench.is("place of a new object", x.place(), -1);
        Bench.is("words of a new object", x.words(), 8);
        Bench.is("functions of a new object", x.functions(), 0);
        Bench.is("variables of a new object", x.variables(), 0);
        Bench.is("things of a new object", x.things(), 0);
        Bench.is("errorAt of a new object", x.errorAt(), -1);
        Bench.is("functionNow of a new object", x.functionNow(), -1);
        Bench.is("stepsToEnd of a new object", x.stepsToEnd(1), 0);
        Bench.is("collect of a new object", x.collect(), 0);
        Bench.is("collections of a new object", x.collections(), 1);
    }

    private static void tape() {
        EmberScript x = new EmberScript();
        Bench.is("feed", x.feed(0x76617220, 0x613d313b, 0x20202020, 0x20202020, 0x20202020), 20);
        Bench.is("feed again", x.feed(0x70727, 0, -1, 0, 0), 40);
        Bench.is("trim", x.trim(20), 20);
        Bench.refusesArgument("trim beyond the tape", () -> x.trim(21));
        Bench.refusesArgument("trim below 0", () -> x.trim(-1));
        Bench.is("trim behind refusals", x.trim(20), 20);
        Bench.is("load of var a=1;", x.load(), 0);
        Bench.is("variables", x.variables(), 1);
        Bench.refusesArgument("trim of a tape that was read", () -> x.trim(1));
        for (int n = 1; n <= 100; n++) {
            Bench.is("feed to the end", x.feed(0x20202020, 0x0a0a0a0a, 0x20202020, 0x20202020, 0x20202020), 20 * n);
        }
        Bench.refusesState("feed of a full tape", () -> x.feed(0, 0, 0, 0, 0));
        Bench.is("trim of a full tape", x.trim(1981), 1981);
        Bench.refusesState("feed of a tape with 1981", () -> x.feed(0, 0, 0, 0, 0));
        Bench.is("trim to 1980", x.trim(1980), 1980);
        Bench.is("feed of a tape with 1980", x.feed(0x20202020, 0x20202020, 0x20202020, 0x20202020, 0x20202020), 2000);
        Bench.is("load of blanks", x.load(), 0);
        Bench.is("state behind blanks", x.state(), 1);
        Bench.is("load of nothing", x.load(), 0);
        // Bytes above 127 are no tokens, and do not become others.
        x.feed(0xe1e2e3e4, 0, 0, 0, 0);
        Bench.is("load of bytes above 127", x.load(), 1);
        Bench.is("their place", x.errorAt(), 0);
    }

    private static void loading() {
        EmberScript x = Bench.done("var a = fun() {}; print a; collect; throw 'k;");
        Bench.is("state", x.state(), 2);
        long before = x.digest();
        Bench.is("bad load", Bench.load(x, "var a ="), 1);
        Bench.is("its place", x.errorAt(), 7);
        Bench.is("the tape behind a bad load", x.trim(0), 0);
        Bench.refusesArgument("the tape behind a bad load", () -> x.trim(1));
        Bench.is("digest behind a bad load", x.digest(), before);
        Bench.is("good load", Bench.load(x, "print 1;"), 0);
        Bench.is("its place", x.errorAt(), -1);
        Bench.is("state behind a load", x.state(), 0);
        Bench.is("steps behind a load", x.steps(), 0);
        Bench.is("collections behind a load", x.collections(), 0);
        Bench.is("freed behind a load", x.freed(), 0);
        Bench.is("things behind a load", x.things(), 0);
        Bench.is("printed behind a load", x.printed(), 0);
        Bench.is("variables behind a load", x.variables(), 0);
        Bench.is("words behind a load", x.words(), 8);
        Bench.is("functions behind a load", x.functions(), 0);
        Bench.refusesState("kindThrown behind a load", () -> x.kindThrown());
        Bench.is("empty load", x.load(), 0);
        Bench.is("state behind an empty load", x.state(), 1);
        // The variables of the new script are nil, whatever those of the one before were.
        Bench.is("load", Bench.load(x, "var a = 5; var b = 6; print 1;"), 0);
        x.run(2);
        Bench.is("load", Bench.load(x, "print 1; var a = 5; var b = 6;"), 0);
        Bench.is("kind of a variable behind a load", x.kindOf(0), 0);
        Bench.is("number of a variable behind a load", x.numberOf(1), 0);
    }

    /** However many loops were read before, those of the latest script are its own. */
    private static void manyLoads() {
        EmberScript x = new EmberScript();
        for (int n = 0; n < 22; n++) {
            Bench.is("load of 25 loops", Bench.load(x, Bench.times("while 1{break;}", 24) + "while 1{break;}"), 0);
        }
        Bench.is("run of 25 loops", x.run(200), 50);
        Bench.is("state", x.state(), 1);
    }

    private static void tokens() {
        Bench.loads("");
        Bench.loads(" \n \n");
        Bench.loads("print 1and 2;");
        Bench.loads("print 000001;print 999999;");
        Bench.fails("print 1000000;", 1, 6);
        Bench.fails("print 0000001;", 1, 6);
        Bench.loads("var abcdefghij = 1;");
        Bench.fails("var abcdefghijk = 1;", 1, 4);
        Bench.loads("print 'abcdefghij;");
        Bench.fails("print 'abcdefghijk;", 1, 6);
        Bench.loads("print 'while; print 'a1;");
        Bench.fails("print '1a;", 1, 6);
        Bench.fails("print ' a;", 1, 6);
        Bench.fails("print '", 1, 6);
        Bench.fails("print \t1;", 1, 6);
        Bench.fails("print\r1;", 1, 5);
        Bench.fails("print A;", 1, 6);
        Bench.fails("print 1 ! = 2;", 1, 8);
        Bench.fails("print 1 !", 1, 8);
        Bench.loads("print 1!=2;print 1==2;print 1<=2;print 1>=2;");
        Bench.fails("print 1<==2;", 1, 9);
        Bench.fails("print 1< =2;", 1, 9);
        Bench.fails("print returned;", 2, 6);
        Bench.fails("var if = 1;", 1, 4);
        Bench.fails("var a.b = 1;", 1, 5);
        Bench.fails("print 1a;", 1, 7);
        Bench.fails("print [;", 1, 6);
        Bench.fails("print z{;", 1, 7);
        Bench.fails("print 1;`", 1, 8);
        Bench.fails("print 1;{", 1, 8);
        // A bad token counts only where the tokens ahead of it are right.
        Bench.fails("print ; 'abcdefghijk", 1, 6);
    }

    /** What was cut off the tape is no part of its last token. */
    private static void cutTokens() {
        cut("print 'a;", 7, 6);
        cut("print 1!=2;", 8, 7);
        cut("print abcdefghijk;", 16, 16);
        cut("print 'abcdefghijk;", 17, 17);
        cut("print 1234567;", 12, 12);
        cut("print 1;", 7, 7);
        // No byte is taken for anything but what it is.
        for (int letter = 0; letter < 256; letter++) {
            if (letter != ' ' && letter != '\n' && letter != ';' && (letter < '0' || letter > '9') && (letter < 'a' || letter > 'z')
                    && "(){.+-*/%<>=,'".indexOf(letter) < 0) {
                Bench.fails("print 1;" + (char) letter, 1, 8);
                Bench.fails("print 1" + (char) letter + ";", 1, 7);
            }
        }
    }

    private static void cut(String text, int length, int place) {
        EmberScript x = new EmberScript();
        Bench.feed(x, text);
        x.trim(length);
        Bench.is("load of the cut " + text, x.load(), 1);
        Bench.is("errorAt of the cut " + text, x.errorAt(), place);
    }

    private static void grammar() {
        Bench.loads("def f() {} def g(a) {return;} def h(a, b) {return a;}");
        Bench.loads("if 1 {} if 1 {} else {} while 0 {} for i in 0 {} try {} catch e {} try {} finally {}");
        Bench.loads("try {} catch e {} finally {} print 1; collect; throw 1;");
        Bench.loads("while 1 {break; continue;} for a in 1 {continue; break;}");
        Bench.loads("object {}; object like nil {}; object like object {}.a(1).b {a = 1, b = 2}; fun() {}; fun(a, b) {};");
        Bench.loads("print not not 1 < 2 and 1 or - - 1 + weak next nil.a(1, 2)(3).b * (1) / self % true - false;");
        Bench.loads("object like object like object {}{}{};");
        Bench.loads("object like fun() {}() {};");
        Bench.fails("print 1", 1, 7);
        Bench.fails("print 1 \n", 1, 9);
        Bench.fails("}", 1, 0);
        Bench.fails("else {}", 1, 0);
        Bench.fails("catch e {}", 1, 0);
        Bench.fails("finally {}", 1, 0);
        Bench.fails("var 1 = 1;", 1, 4);
        Bench.fails("var a;", 1, 5);
        Bench.fails("var a == 1;", 1, 6);
        Bench.fails("def () {}", 1, 4);
        Bench.fails("def f {}", 1, 6);
        Bench.fails("def f(,) {}", 1, 6);
        Bench.fails("def f(a,) {}", 1, 8);
        Bench.fails("def f(a b) {}", 1, 8);
        Bench.fails("def f() return;", 1, 8);
        Bench.fails("def f() {", 1, 9);
        Bench.fails("def f() {yield;}", 1, 14);
        Bench.fails("if {}", 1, 3);
        Bench.fails("if 1 print 1;", 1, 5);
        Bench.fails("if 1 {} else print 1;", 1, 13);
        Bench.fails("if 1 {} else {} else {}", 1, 16);
        Bench.fails("while {}", 1, 6);
        Bench.fails("for 1 in 1 {}", 1, 4);
        Bench.fails("for a of 1 {}", 1, 6);
        Bench.fails("break", 1, 5);
        Bench.fails("while 1 {break 1;}", 1, 15);
        Bench.fails("throw;", 1, 5);
        Bench.fails("try {} print 1;", 1, 7);
        Bench.fails("try {} catch {}", 1, 13);
        Bench.fails("try {} finally {} catch e {}", 1, 18);
        Bench.fails("try {} catch e {} catch f {}", 1, 18);
        Bench.fails("collect 1;", 1, 8);
        Bench.fails("print 1 < 2 < 3;", 1, 12);
        Bench.fails("print 1 == not 2;", 1, 11);
        Bench.fails("print - not 2;", 1, 8);
        Bench.fails("print 1 + ;", 1, 10);
        Bench.fails("print * 1;", 1, 6);
        Bench.fails("print (1;", 1, 8);
        Bench.fails("print ();", 1, 7);
        Bench.fails("print nil.if;", 1, 10);
        Bench.fails("print nil.'a;", 1, 10);
        Bench.fails("print nil(1,);", 1, 12);
        Bench.fails("print nil(1 2);", 1, 12);
        Bench.fails("object 1;", 1, 7);
        Bench.fails("object like {};", 1, 12);
        Bench.fails("object like 1;", 1, 13);
        Bench.fails("object like - 1 {};", 1, 12);
        Bench.fails("object like object like 1 {};", 1, 28);
        Bench.fails("object {a};", 1, 9);
        Bench.fails("object {a = };", 1, 12);
        Bench.fails("object {a = 1,};", 1, 14);
        Bench.fails("object {'a = 1};", 1, 8);
        Bench.fails("fun f() {};", 1, 4);
        Bench.fails("print 1 = 2;", 1, 8);
        Bench.fails("self = 1 = 2;", 1, 9);
        Bench.fails("1 2;", 1, 2);
        Bench.fails(";", 1, 0);
    }

    private static void depth() {
        Bench.loads(Bench.times("(", 12) + "1" + Bench.times(")", 12) + ";");
        Bench.fails(Bench.times("(", 13) + "1" + Bench.times(")", 13) + ";", 1, 12);
        Bench.loads(Bench.times("- ", 12) + "1;");
        Bench.fails(Bench.times("- ", 13) + "1;", 1, 24);
        Bench.loads(Bench.times("not ", 12) + "1;");
        Bench.fails(Bench.times("not ", 13) + "1;", 1, 48);
        Bench.fails(Bench.times("next ", 6) + Bench.times("weak ", 7) + "1;", 1, 60);
        Bench.loads(Bench.times("not ", 6) + Bench.times("(", 6) + "1" + Bench.times(")", 6) + ";");
        Bench.fails(Bench.times("not ", 6) + Bench.times("(", 7) + "1" + Bench.times(")", 7) + ";", 1, 30);
        // Behind what a sign turns, the depth is what it was ahead of the sign.
        Bench.loads(Bench.times("(", 11) + "- 1 - (2)" + Bench.times(")", 11) + ";");
        Bench.loads(Bench.times("(", 11) + "not 1 and (2)" + Bench.times(")", 11) + ";");
        // But all of a comparison stands behind its not.
        Bench.fails(Bench.times("(", 11) + "not 1 < (2)" + Bench.times(")", 11) + ";", 1, 19);
        Bench.loads(Bench.times("(", 11) + "- 1 < (2)" + Bench.times(")", 11) + ";");
        Bench.loads(Bench.times("if 1 {", 12) + Bench.times("}", 12));
        Bench.fails(Bench.times("if 1 {", 13) + Bench.times("}", 13), 1, 77);
        Bench.loads(Bench.times("if 1 {", 11) + "def f(a) {}" + Bench.times("}", 11));
        Bench.fails(Bench.times("if 1 {", 12) + "def f(a) {}" + Bench.times("}", 12), 1, 77);
        Bench.loads(Bench.times("if 1 {", 11) + "object {a = 1};" + Bench.times("}", 11));
        Bench.fails(Bench.times("if 1 {", 12) + "object {a = 1};" + Bench.times("}", 12), 1, 79);
        Bench.loads(Bench.times("nil(", 12) + Bench.times(")", 12) + ";");
        Bench.fails(Bench.times("nil(", 13) + Bench.times(")", 13) + ";", 1, 51);
        Bench.loads(Bench.times("fun() {", 12) + Bench.times("};", 12));
        Bench.fails(Bench.times("fun() {", 13) + Bench.times("};", 13), 1, 12 * 7 + 3);
        Bench.loads(Bench.times("nil(1,", 12) + "1" + Bench.times(")", 12) + ";");
        Bench.fails(Bench.times("nil(1,", 13) + "1" + Bench.times(")", 13) + ";", 1, 75);
        Bench.loads(Bench.times("object {a = ", 12) + "1" + Bench.times("}", 12) + ";");
        Bench.fails(Bench.times("object {a = ", 13) + "1" + Bench.times("}", 13) + ";", 1, 12 * 12 + 7);
        Bench.loads(Bench.times("object {a=1,b=", 12) + "1" + Bench.times("}", 12) + ";");
        Bench.fails(Bench.times("object {a=1,b=", 13) + "1" + Bench.times("}", 13) + ";", 1, 14 * 12 + 7);
        // A value in parentheses behind a not ends the not.
        Bench.loads("print " + Bench.times("not ", 12) + "1 and " + Bench.times("not ", 12) + "1;");
        // like makes nothing deeper, however often it comes.
        Bench.loads(Bench.times("object like ", 120) + "nil" + Bench.times(" {}", 120) + ";");
        Bench.loads(Bench.times("(", 11) + Bench.times("object like ", 50) + "nil" + Bench.times(" {}", 50) + Bench.times(")", 11) + ";");
        Bench.fails(Bench.times("(", 12) + Bench.times("object like ", 50) + "nil" + Bench.times(" {}", 50) + Bench.times(")", 12) + ";",
                1, 12 + 50 * 12 + 4);
    }

    private static void tokenCount() {
        Bench.loads(Bench.times("1;", 250));
        Bench.fails(Bench.times("1;", 250) + "1;", 1, 500);
        Bench.fails(Bench.times("1;", 249) + "1+1;", 1, 500);
        Bench.loads(Bench.times("1;", 248) + "1+1;" + " \n");
        Bench.fails(Bench.times("1;", 250) + "  A", 1, 502);
        Bench.fails(Bench.times("1;", 249) + "1 A", 1, 500);
        Bench.loads(Bench.times("1;\n", 250) + Bench.times(" ", 1000));
    }

    private static void unknownNames() {
        Bench.fails("print a;", 2, 6);
        Bench.loads("print a; var a = 1;");
        Bench.loads("print f; def f() {}");
        Bench.loads("print i; for i in 3 {}");
        Bench.loads("print e; try {} catch e {}");
        Bench.fails("def f(a) {} print a;", 2, 18);
        Bench.fails("def f() {var a = 1;} a = 2;", 2, 21);
        Bench.loads("def f() {return a;} var a = 1;");
        Bench.loads("def f() {return fun() {return fun() {return a;};};} var a = 1;");
        Bench.loads("def f() {return fun() {return b;}; if 1 {var b = 1;}}");
        Bench.loads("def f() {f();}");
        Bench.fails("fun() {g(); def g() {h();}}; def k() {def h() {}}", 2, 21);
        Bench.fails("a = 1;", 2, 0);
        Bench.fails("a.b = 1;", 2, 0);
        // Names of slots and inputs of calls are no variables.
        Bench.loads("print nil.a; object {b = 1}; print 'c;");
        Bench.fails("object {a = a};", 2, 12);
        Bench.fails("object like a {};", 2, 12);
        Bench.fails("for i in i {} print j;", 2, 20);
    }

    private static void repeatedNames() {
        Bench.fails("var a = 1; var a = 2;", 3, 15);
        Bench.fails("var a = 1; def a() {}", 3, 15);
        Bench.fails("def a() {} def a() {}", 3, 15);
        Bench.fails("def f(a, a) {}", 3, 9);
        Bench.fails("def f(a) {var a = 1;}", 3, 14);
        Bench.fails("def f(a) {def a() {}}", 3, 14);
        Bench.loads("def f(f) {} var a = fun(a) {var f = 1;};");
        Bench.loads("var a = 1; for a in 3 {} try {} catch a {} for a in 2 {}");
        Bench.fails("for a in 3 {} var a = 1;", 3, 18);
        Bench.fails("try {} catch a {} def a() {}", 3, 22);
        Bench.loads("def f(a) {for a in 3 {}}");
        Bench.fails("if 1 {var a = 1;} else {var a = 2;}", 3, 28);
        Bench.fails("object {a = 1, a = 2};", 3, 15);
        Bench.fails("object {a = 1, b = 2, a = 3};", 3, 22);
        Bench.loads("object {a = object {a = 1, b = 2}, b = 2}; object {a = 1};");
        Bench.fails("object {a = object {b = 1}, b = 2, b = 3};", 3, 35);
        Bench.loads("var a = object {a = 1};");
    }

    private static void misplaced() {
        Bench.fails("return;", 4, 0);
        Bench.fails("return 1;", 4, 0);
        Bench.fails("if 1 {yield 1;}", 4, 6);
        Bench.fails("def f() {} return;", 4, 11);
        Bench.fails("def f() {yield 1; return 2;}", 4, 18);
        Bench.fails("def f() {return 2; yield 1;}", 4, 9);
        Bench.fails("def f() {if 1 {return 2;} while 1 {yield 1;}}", 4, 15);
        Bench.loads("def f() {yield 1; return;}");
        Bench.loads("def f() {yield fun() {return 2;}; return;}");
        Bench.loads("def f() {return fun() {yield 2;};}");
        Bench.fails("break;", 4, 0);
        Bench.fails("while 1 {} continue;", 4, 11);
        Bench.loads("while 1 {if 1 {try {break;} catch e {continue;} finally {break;}}}");
        Bench.fails("while 1 {fun() {break;};}", 4, 16);
        Bench.fails("while 1 {def f() {continue;}}", 4, 18);
        Bench.loads("fun() {while 1 {break;}};");
        Bench.fails("while fun() {break;} {}", 4, 13);
        Bench.fails("for a in fun() {continue;} {}", 4, 16);
        Bench.fails("while 1 {for a in 1 {} } break;", 4, 25);
    }

    private static void assignments() {
        Bench.loads("var a = 1; a = 2; a.b = 3; a.b.c = 4; a(1).b = 5; (a).b = 6; self.a = 7; 'a.b = 8;");
        Bench.loads("object {}.a = 1; fun() {}.a = 2; object like self {}.b = 3; (1 + 2).a = 4;");
        Bench.fails("var a = 1; (a) = 2;", 4, 15);
        Bench.fails("1 = 2;", 4, 2);
        Bench.fails("self = 2;", 4, 5);
        Bench.fails("(self.a) = 2;", 4, 9);
        Bench.fails("self.a() = 2;", 4, 9);
        Bench.fails("self() = 2;", 4, 7);
        Bench.fails("- self.a = 2;", 4, 9);
        Bench.fails("weak self.a = 2;", 4, 12);
        Bench.fails("not self.a = 2;", 4, 11);
        Bench.fails("1 + self.a = 2;", 4, 11);
        Bench.fails("self.a + self.a = 2;", 4, 16);
        Bench.fails("self.a and self.a = 2;", 4, 18);
        Bench.fails("self.a == self.a = 2;", 4, 17);
        Bench.fails("object {} = 2;", 4, 10);
        Bench.fails("object like self.a {} = 2;", 4, 22);
        Bench.fails("fun() {} = 2;", 4, 9);
        Bench.fails("nil = 2;", 4, 4);
        Bench.fails("'a = 2;", 4, 3);
    }

    private static void limits() {
        Bench.loads(Bench.times("fun() {};", 20));
        Bench.fails(Bench.times("fun() {};", 20) + "fun() {};", 5, 180);
        Bench.fails(Bench.times("fun() {};", 20) + "def f() {}", 5, 180);
        Bench.loads(variables(0, 16));
        Bench.fails(variables(0, 17), 5, variables(0, 16).length() + 4);
        Bench.fails(variables(0, 16) + "for z in 1 {}", 5, variables(0, 16).length() + 4);
        Bench.fails(variables(0, 16) + "try {} catch z {}", 5, variables(0, 16).length() + 13);
        Bench.fails(variables(0, 16) + "def z() {}", 5, variables(0, 16).length() + 4);
        Bench.loads(variables(0, 16) + "for a0 in 1 {} try {} catch a1 {}");
        Bench.loads("def f(a, b) {" + variables(0, 8) + "}");
        Bench.fails("def f(a, b) {" + variables(0, 9) + "}", 5, 13 + variables(0, 8).length() + 4);
        Bench.loads("def f(a,b,c,d,e,f,g,h,i,j) {}");
        Bench.fails("def f(a,b,c,d,e,f,g,h,i,j,k) {}", 5, 26);
        Bench.loads(symbols(0, 24));
        Bench.fails(symbols(0, 24) + "'zz;", 5, symbols(0, 24).length());
        Bench.fails(symbols(0, 24) + "nil.zz;", 5, symbols(0, 24).length() + 4);
        Bench.fails(symbols(0, 24) + "object {zz = 1};", 5, symbols(0, 24).length() + 8);
        Bench.loads(symbols(0, 24) + "'s0; nil.type; object {busy = 1};");
        Bench.loads("object {a=1,b=1,c=1,d=1,e=1,f=1,g=1,h=1};");
        Bench.fails("object {a=1,b=1,c=1,d=1,e=1,f=1,g=1,h=1,i=1};", 5, 40);
        Bench.loads("object {a=object {b=1,c=1,d=1,e=1,f=1,g=1,h=1,i=1}};");
        Bench.loads("nil(1,2,3,4,5,6);");
        Bench.fails("nil(1,2,3,4,5,6,(7));", 5, 16);
        Bench.loads("nil(1,2,3,4,5,nil(1,2,3,4,5,6));");
    }

    private static String variables(int from, int to) {
        StringBuilder text = new StringBuilder();
        for (int n = from; n < to; n++) {
            text.append("var a").append(n).append("=1;");
        }
        return text.toString();
    }

    private static String symbols(int from, int to) {
        StringBuilder text = new StringBuilder();
        for (int n = from; n < to; n++) {
            text.append("'s").append(n).append(';');
        }
        return text.toString();
    }

    private static void orderOfErrors() {
        // Error 1 comes ahead of all others, wherever it is.
        Bench.fails("print a; var b = 1; var b = 2; return; (", 1, 40);
        Bench.fails(Bench.times("fun() {};", 25) + "A", 1, 225);
        // Otherwise the first token counts.
        Bench.fails("return; print a;", 4, 0);
        Bench.fails("print a; return;", 2, 6);
        Bench.fails("def f() {return 1; print a; yield 1;}", 4, 9);
        Bench.fails("def f() {print a; return 1; yield 1;}", 2, 15);
        Bench.fails("a = 1 = 2;", 1, 6);
        Bench.fails("(a) = 1;", 2, 1);
        Bench.fails("(self) = a;", 4, 7);
        Bench.fails("var b = a; var b = 1;", 2, 8);
        // At one token the smallest number.
        Bench.fails("nil(1,2,3,4,5,6,a);", 2, 16);
        Bench.fails("object {a=1,b=1,c=1,d=1,e=1,f=1,g=1,h=1,a=1};", 3, 40);
        Bench.fails(variables(0, 16) + "var a0=1;", 3, variables(0, 16).length() + 4);
        // What is beyond a limit is declared all the same.
        Bench.fails("print a16;" + variables(0, 17), 5, 10 + variables(0, 16).length() + 4);
        Bench.fails("f();" + Bench.times("fun() {};", 20) + "def f() {}", 5, 184);
    }

    private static void whatIsKnown() {
        EmberScript x = Bench.with("def f(a, b) {var c = 1; for d in 2 {} try {} catch e {} for a in 1 {} "
                + "def g() {yield 1;} return fun(x) {};} var v = 1; for w in 1 {} def h() {fun() {yield 1;};}");
        Bench.is("functions", x.functions(), 5);
        Bench.is("inputsOf(0)", x.inputsOf(0), 2);
        Bench.is("variablesOf(0)", x.variablesOf(0), 6);
        Bench.is("isGenerator(0)", x.isGenerator(0), false);
        Bench.is("inputsOf(1)", x.inputsOf(1), 0);
        Bench.is("variablesOf(1)", x.variablesOf(1), 0);
        Bench.is("isGenerator(1)", x.isGenerator(1), true);
        Bench.is("inputsOf(2)", x.inputsOf(2), 1);
        Bench.is("variablesOf(2)", x.variablesOf(2), 1);
        Bench.is("isGenerator(3)", x.isGenerator(3), false);
        Bench.is("isGenerator(4)", x.isGenerator(4), true);
        Bench.is("variables", x.variables(), 4);
        Bench.refusesIndex("inputsOf(5)", () -> x.inputsOf(5));
        Bench.refusesIndex("inputsOf(-1)", () -> x.inputsOf(-1));
        Bench.refusesIndex("variablesOf(5)", () -> x.variablesOf(5));
        Bench.refusesIndex("variablesOf(-1)", () -> x.variablesOf(-1));
        Bench.refusesIndex("isGenerator(5)", () -> x.isGenerator(5));
        Bench.refusesIndex("isGenerator(-1)", () -> x.isGenerator(-1));
    }

    private static void words() {
        EmberScript x = Bench.with("print 'b; print nil.a; print object {c = 'd, a = 'type}; var e = 'e; 'if;");
        Bench.is("words", x.words(), 14);
        Bench.prints("print 'type; print 'busy; print 'x; print 'y; print 'x;", "'type 'busy '8 '9 '8");
        Bench.prints("try {nil.k;} catch e {} print 'b; print object {a = 1}.a; print 'c; print 'a;", "'9 1 '11 '10");
    }
}
