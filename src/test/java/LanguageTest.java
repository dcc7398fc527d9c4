/** Sections 2 to 5 of the document: what scripts do, told by what they print. */
public final class LanguageTest {
    public static void main(String[] args) {
        numbers();
        comparisons();
        logic();
        order();
        functions();
        methods();
        weakReferences();
        objects();
        loops();
        generators();
        askingRefused();
        tries();
        finallyBlocks();
        finallyInGenerators();
        manyScopes();
        Bench.end("LanguageTest");
    }

    private static void numbers() {
        Bench.prints("print 7 + 3 * 2; print (7 + 3) * 2; print 7 - 3 - 2; print 24 / 4 / 2;", "13 20 2 3");
        Bench.prints("print 7 / 2; print -7 / 2; print 7 / -2; print -7 / -2;", "3 -3 -3 3");
        Bench.prints("print 7 % 2; print -7 % 2; print 7 % -2; print -7 % -2; print 6 % 3;", "1 -1 1 -1 0");
        Bench.prints("print 2 * - 3; print - - 3; print 1 - -1;", "-6 3 2");
        Bench.prints("var m = 65536 * 32768; print m; print m - 1; print -m; print m / -1; print m % -1; print m * 2;",
                "-2147483648 2147483647 -2147483648 -2147483648 0 0");
        Bench.prints("print 999999 * 999999;", String.valueOf(999999 * 999999));
        Bench.prints("print 1 / 0;", "throws 'zero");
        Bench.prints("print 1 % 0;", "throws 'zero");
        Bench.prints("print nil / 0;", "throws 'type");
        Bench.prints("print 1 + nil;", "throws 'type");
        Bench.prints("print true + 1;", "throws 'type");
        Bench.prints("print 'a * 1;", "throws 'type");
        Bench.prints("print 1 - 'a;", "throws 'type");
        Bench.prints("print 1 % false;", "throws 'type");
        Bench.prints("print - nil;", "throws 'type");
        Bench.prints("print - true;", "throws 'type");
    }

    private static void comparisons() {
        Bench.prints("print 1 < 2; print 2 < 2; print 2 > 1; print 2 > 2; print 2 <= 2; print 3 <= 2; print 2 >= 2; print 1 >= 2;",
                "true false true false true false true false");
        Bench.prints("print -1 < 1;", "true");
        Bench.prints("print nil < 1;", "throws 'type");
        Bench.prints("print 1 >= 'a;", "throws 'type");
        Bench.prints("print true > false;", "throws 'type");
        Bench.prints("print 'a <= 'b;", "throws 'type");
        Bench.prints("print 1 == 1; print 1 != 1; print 1 == 2; print 1 != true; print nil == false; print 0 == nil; print 'a == 'a;"
                + "print 'a == 'b; print 3 == 'slot;", "true false false true false false true false false");
        Bench.prints("var a = object {}; var b = object {}; print a == a; print a == b; var f = fun() {}; print f == f; print a != f;",
                "true false true true");
    }

    private static void logic() {
        Bench.prints("print not nil; print not false; print not true; print not 0; print not 'a; print not not 1;",
                "true true false false false true");
        Bench.prints("print nil and 1; print false and 1; print 0 and 2; print 1 and nil;", "nil false 2 nil");
        Bench.prints("print nil or 1; print false or nil; print 0 or 2; print 'a or 1;", "1 nil 0 '8");
        Bench.prints("print nil and 1 / 0; print 1 or 1 / 0; print nil or 2 and 3; print 1 and nil or 4;", "nil 1 3 4");
        Bench.prints("print not 1 == 2; print not nil and nil;", "true nil");
        Bench.prints("if 0 {print 1;} else {print 2;} if nil {print 3;} else {print 4;} if false {print 5;} if true {print 6;}",
                "1 4 6");
    }

    private static void order() {
        String f = "def f(x) {print x; return x;} ";
        Bench.prints(f + "f(1) + f(2) * f(3);", "1 2 3");
        Bench.prints(f + "try {f(nil) + f(2);} catch e {print e;}", "nil 2 'type");
        Bench.prints(f + "try {f(nil) < f(2);} catch e {print e;}", "nil 2 'type");
        Bench.prints(f + "try {f(nil)(f(2));} catch e {print e;}", "nil 2 'type");
        Bench.prints(f + "try {f(nil).a(f(2));} catch e {print e;}", "nil 'type");
        Bench.prints(f + "try {object {}.a(f(2));} catch e {print e;}", "'slot");
        Bench.prints(f + "try {object like f(1) {a = f(2)};} catch e {print e;}", "1 'type");
        Bench.prints(f + "object {b = f(1), a = f(2)};", "1 2");
        Bench.prints(f + "try {f(1).a = f(2);} catch e {print e;}", "1 2 'type");
        Bench.prints(f + "try {f(f(1), f(2));} catch e {print e;}", "1 2 'args");
        Bench.prints(f + "var w = weak f; try {w(f(1));} catch e {print e;}", "1 'args");
    }

    private static void functions() {
        Bench.prints("def f(a, b) {return a - b;} print f(5, 3); print f;", "2 function0");
        Bench.prints("def f() {} print f(); def g() {return;} print g();", "nil nil");
        Bench.prints("def f() {return 1; print 2;} print f();", "1");
        Bench.prints("def f(a) {a = a + 1; return a;} var a = 5; print f(a); print a;", "6 5");
        Bench.prints("var a = 1; def f() {a = a + 1;} f(); f(); print a;", "3");
        Bench.prints("def make() {var n = 0; return fun() {n = n + 1; return n;};} var a = make(); var b = make();"
                + "print a(); print a(); print b(); print a();", "1 2 1 3");
        Bench.prints("def f(a) {return fun(b) {return fun(c) {return a * 100 + b * 10 + c;};};} print f(1)(2)(3);", "123");
        Bench.prints("def f() {print a; var a = 1; print a;} f(); f();", "nil 1 nil 1");
        Bench.prints("def f(n) {if n < 2 {return 1;} return n * f(n - 1);} print f(10);", "3628800");
        Bench.prints("def f(n) {return f(n + 1);} f(0);", "throws 'deep");
        Bench.prints("var d = 0; def f() {d = d + 1; f();} try {f();} catch e {print d; print e;}", "10 'deep");
        Bench.prints("print nil();", "throws 'type");
        Bench.prints("print 1(2);", "throws 'type");
        Bench.prints("def f(a) {} f();", "throws 'args");
        Bench.prints("def f(a) {} f(1, 2);", "throws 'args");
        Bench.prints("def g(a) {yield 1;} g();", "throws 'args");
        Bench.prints("print f; f = 3; print f; def f() {} print f;", "nil 3 function0");
        Bench.prints("print (fun(a) {return a;})(4); print fun() {return 5;}();", "4 5");
        Bench.prints("def f() {def g() {return 1;} return g;} print f()() + f()();", "2");
        Bench.prints("def f(g) {return g(g);} print f(fun(g) {return 7;});", "7");
    }

    private static void methods() {
        Bench.prints("print self; def f() {return self;} print f();", "nil nil");
        Bench.prints("var o = object {f = fun() {return self;}}; print o; print o.f() == o; var f = o.f; print f(); print (o.f)();",
                "object1 true nil nil");
        Bench.prints("var o = object {f = fun() {return fun() {return self;};}}; print o.f()();", "nil");
        Bench.prints("var o = object {n = 1, f = fun(k) {return self.n + k;}}; var p = object like o {n = 10}; print o.f(5); print p.f(5);",
                "6 15");
        Bench.prints("var o = object {p = object {n = 3, f = fun() {return self.n;}}}; print o.p.f();", "3");
        Bench.prints("var o = object {g = fun() {yield self;}}; var g = o.g(); o = nil; var s = next g; print s;", "object1");
        Bench.prints("var o = object {f = 1}; o.f();", "throws 'type");
        Bench.prints("var o = object {}; o.f();", "throws 'slot");
        Bench.prints("nil.f();", "throws 'type");
        Bench.prints("var o = object {}; o.w = weak o; print o.w();", "object0");
        Bench.prints("var o = object {f = fun(a) {}}; o.f();", "throws 'args");
    }

    private static void weakReferences() {
        Bench.prints("var o = object {}; var w = weak o; print w; print w(); o = nil; print w(); collect; print w();",
                "weak1 object0 object0 nil");
        Bench.prints("def f() {} var w = weak f; var v = weak w; print w(); print v(); print v()();", "function0 weak1 function0");
        Bench.prints("def g() {yield 1;} var i = g(); var w = weak i; print w();", "generator1");
        Bench.prints("weak nil;", "throws 'type");
        Bench.prints("weak 1;", "throws 'type");
        Bench.prints("weak 'a;", "throws 'type");
        Bench.prints("weak true;", "throws 'type");
        Bench.prints("var o = object {}; var w = weak o; w(1);", "throws 'args");
        Bench.prints("var o = object {}; var w = weak o; w.a;", "throws 'type");
    }

    private static void objects() {
        Bench.prints("var o = object {a = 1, b = 2}; print o.a; print o.b; o.a = 3; print o.a; o.c = 4; print o.c;", "1 2 3 4");
        Bench.prints("print object {}.a;", "throws 'slot");
        Bench.prints("print nil.a;", "throws 'type");
        Bench.prints("print 1 .a;", "throws 'type");
        Bench.prints("def f() {} print f.a;", "throws 'type");
        Bench.prints("def f() {} f.a = 1;", "throws 'type");
        Bench.prints("var o = object {a = 1}; var p = object like o {b = 2}; print p.a; p.a = 5; print p.a; print o.a; o.c = 6; print p.c;",
                "1 5 1 6");
        Bench.prints("var o = object like object like object {a = 1} {b = 2} {c = 3}; print o.a * 100 + o.b * 10 + o.c;", "123");
        Bench.prints("object like nil {};", "throws 'type");
        Bench.prints("def f() {} object like f {};", "throws 'type");
        Bench.prints("var o = object {a=1,b=1,c=1,d=1,e=1,f=1,g=1,h=1}; o.h = 2; print o.h; o.i = 3;", "2 throws 'full");
        Bench.prints("var o = object like object {i = 1} {a=1,b=1,c=1,d=1,e=1,f=1,g=1,h=1}; print o.i; o.i = 3;", "1 throws 'full");
        Bench.prints("var o = object {}; o.a = o; print o.a.a == o; o.a.a.b = 4; print o.b;", "true 4");
        Bench.prints("object {a = 1, b = nil.c};", "throws 'type");
        Bench.prints("var p = object {a = 1}; var o = object like p.q {};", "throws 'slot");
    }

    private static void loops() {
        Bench.prints("var n = 0; while n < 3 {print n; n = n + 1;}", "0 1 2");
        Bench.prints("for i in 3 {print i;} print i;", "0 1 2 2");
        Bench.prints("for i in 3 {i = i + 10; print i;} print i;", "10 11 12 12");
        Bench.prints("for i in 0 {print i;} print i; for i in -3 {print i;}", "nil");
        Bench.prints("for i in nil {}", "throws 'type");
        Bench.prints("for i in object {} {}", "throws 'type");
        Bench.prints("def f() {yield 1;} for i in f {}", "throws 'type");
        Bench.prints("for i in 5 {if i == 1 {continue;} if i == 3 {break;} print i;}", "0 2");
        Bench.prints("for i in 3 {for j in 3 {if j == 1 {break;} print i * 10 + j;}}", "0 10 20");
        Bench.prints("for i in 3 {for j in 3 {if j == 1 {continue;} print i * 10 + j;}}", "0 2 10 12 20 22");
        Bench.prints("var n = 0; while true {n = n + 1; if n < 3 {continue;} break;} print n;", "3");
        Bench.prints("def f() {for i in 9 {if i == 4 {return i;}}} print f();", "4");
        Bench.prints("for i in 2 {for i in 3 {} print i;}", "2 2");
        Bench.prints("var n = 3; for i in n {n = 1; print i;}", "0 1 2");
        // What is left by a break is what is in the loop, whatever stands ahead of the loop, or round it.
        String twice = "for i in 2 {for j in 5 {break;} print i;} ";
        Bench.prints("for a in 1 {} " + twice, "0 1");
        Bench.prints("try {} finally {} " + twice, "0 1");
        Bench.prints("try {} catch e {} " + twice, "0 1");
        Bench.prints("for a in 1 {def f() {" + twice + "} f();}", "0 1");
        Bench.prints("try {def f() {" + twice + "} f();} catch e {print e;}", "0 1");
        Bench.prints("for a in 2 {try {fun() {try {" + twice + "} finally {}}();} finally {print 'a;}}", "0 1 '8 0 1 '8");
    }

    private static void generators() {
        Bench.prints("def g() {print 'a; yield 1; print 'b; yield 2; print 'c;} var i = g(); print next i; print next i; next i;",
                "'8 1 '9 2 '10 throws 'done");
        Bench.prints("def g(n) {for k in n {yield k * k;}} for x in g(4) {print x;} print x;", "0 1 4 9 9");
        Bench.prints("def g() {yield 1; return; yield 2;} for x in g() {print x;}", "1");
        Bench.prints("def g() {if nil {yield 1;}} for x in g() {print x;} print x;", "nil");
        Bench.prints("def g() {yield 1;} var i = g(); next i; try {next i;} catch e {print e;} next i;", "'done throws 'done");
        Bench.prints("def g() {yield 1; yield 2;} var i = g(); print next i; for x in i {print x;} for x in i {print x;} print 'z;",
                "1 2 '8");
        Bench.prints("def g() {yield 1; throw 7;} var i = g(); next i; try {next i;} catch e {print e;} next i;", "7 throws 'done");
        Bench.prints("def g() {yield 1; throw 7;} try {for x in g() {print x;}} catch e {print e;}", "1 7");
        Bench.prints("def n() {var k = 0; while true {yield k; k = k + 1;}} var a = n(); var b = n(); next a; next a; print next a; print next b;",
                "2 0");
        Bench.prints("def g(a) {yield a; a = a + 1; yield a;} var i = g(5); print next i + next i;", "11");
        Bench.prints("def inner() {yield 1; yield 2;} def outer() {for x in inner() {yield x; yield x * 10;}} for y in outer() {print y;}",
                "1 10 2 20");
        Bench.prints("def g() {var x = yield1; yield 2;} var yield1 = 1; print next g();", "2");
        Bench.prints("def g() {yield nil; yield 5;} for x in g() {print x;}", "nil 5");
        Bench.prints("def g() {yield 1; yield 2; yield 3;} var i = g(); for x in i {if x == 2 {break;}} print next i;", "3");
        Bench.prints("def t(n) {if n > 0 {for x in t(n - 1) {yield x;} yield n;}} for x in t(3) {print x;}", "1 2 3");
        Bench.prints("def g() {yield 1;} print g() == g(); print g;", "false function0");
        Bench.prints("def g() {yield self;} print next g();", "nil");
    }

    private static void askingRefused() {
        Bench.prints("next 1;", "throws 'type");
        Bench.prints("def g() {yield 1;} next g;", "throws 'type");
        Bench.prints("var i = nil; def g() {yield next i;} i = g(); next i;", "throws 'busy");
        Bench.prints("var i = nil; def g() {for x in i {} yield 1;} i = g(); next i;", "throws 'busy");
        Bench.prints("var i = nil; def g() {try {next i;} catch e {yield e;}} i = g(); print next i;", "'busy");
        // An ended one is done, or over, even where there are ten frames; a new one is refused there.
        Bench.prints("def g() {yield 1;} var i = g(); next i; try {next i;} catch e {}"
                + "def f(n) {if n > 1 {f(n - 1);} else {for x in i {} print 'ok; next i;}} f(10);", "'8 throws 'done");
        Bench.prints("def g() {yield 1;} def f(n) {if n > 1 {f(n - 1);} else {var i = g(); print 'ok; next i;}} f(10);",
                "'8 throws 'deep");
        Bench.prints("def g() {yield 1;} def f(n) {if n > 1 {f(n - 1);} else {for x in g() {}}} f(10);", "throws 'deep");
        Bench.prints("def g() {yield 1;} def f(n) {if n > 1 {f(n - 1);} else {print next g();}} f(9);", "1");
        Bench.prints("var i = nil; def g(n) {if n > 1 {g1(n);} else {next i;} yield 1;} def g1(n) {next g(n - 1);}"
                + "i = g(5); next i;", "throws 'busy");
        // Asked in vain for busy or deep, a generator goes on all the same.
        Bench.prints("def g() {yield 1; yield 2;} var i = g(); def f(n) {if n > 1 {f(n - 1);} else {next i;}}"
                + "try {f(10);} catch e {print e;} print next i; print next i;", "'deep 1 2");
    }

    private static void tries() {
        Bench.prints("try {print 1; throw 2; print 3;} catch e {print e;} print 4;", "1 2 4");
        Bench.prints("try {print 1;} catch e {print 2;} print e;", "1 nil");
        Bench.prints("try {nil.a;} catch e {print e;} try {1 / 0;} catch e {print e;}", "'type 'zero");
        Bench.prints("def f() {throw 'x;} try {f();} catch e {print e;}", "'8");
        Bench.prints("def f() {try {throw 1;} catch e {throw e + 1;}} try {f();} catch e {print e;}", "2");
        Bench.prints("try {try {throw 1;} catch e {print e; throw 2;}} catch e {print e;}", "1 2");
        Bench.prints("try {1 + (2 + (3 + nil.a));} catch e {print e;} print 1 + 1;", "'type 2");
        Bench.prints("throw object {};", "throws object0");
        Bench.prints("throw nil;", "throws nil");
        Bench.prints("for i in 3 {try {if i == 1 {continue;} print i;} catch e {}}", "0 2");
        Bench.prints("for i in 3 {try {throw i;} catch i {print i;}}", "0 1 2");
        Bench.prints("def f() {try {return 1;} catch e {return 2;} return 3;} print f();", "1");
        Bench.prints("def f() {try {throw 1;} catch e {return 2;} return 3;} print f();", "2");
        Bench.prints("while true {try {break;} catch e {}} print 1; throw 2;", "1 throws 2");
        Bench.prints("try {throw 1;} catch e {} throw 2;", "throws 2");
        Bench.prints("def g() {yield 1; throw 2;} def f() {for x in g() {print x;}} try {f();} catch e {print e;}", "1 2");
    }

    private static void finallyBlocks() {
        Bench.prints("try {print 1;} finally {print 2;} print 3;", "1 2 3");
        Bench.prints("try {throw 1;} finally {print 2;}", "2 throws 1");
        Bench.prints("try {throw 1;} catch e {print e;} finally {print 2;} print 3;", "1 2 3");
        Bench.prints("try {throw 1;} catch e {throw 5;} finally {print 2;}", "2 throws 5");
        Bench.prints("try {print 0;} catch e {print e;} finally {print 2;}", "0 2");
        Bench.prints("def f() {try {return 1;} finally {print 2;}} print f();", "2 1");
        Bench.prints("def f() {try {return 1;} finally {return 2;}} print f();", "2");
        Bench.prints("def f() {try {throw 1;} finally {return 2;}} print f();", "2");
        Bench.prints("def f() {try {throw 1;} catch e {return e + 2;} finally {print 'a;}} print f();", "'8 3");
        Bench.prints("def f() {try {return 1;} finally {throw 2;}} try {f();} catch e {print e;}", "2");
        Bench.prints("try {try {throw 1;} finally {throw 2;}} catch e {print e;}", "2");
        Bench.prints("try {throw 1;} finally {try {throw 2;} catch e {print e;}}", "2 throws 1");
        Bench.prints("for i in 3 {try {if i == 1 {break;} print i;} finally {print i + 10;}}", "0 10 11");
        Bench.prints("for i in 3 {try {if i == 1 {continue;} print i;} finally {print i + 10;}}", "0 10 11 2 12");
        Bench.prints("for i in 3 {try {throw i;} finally {continue;}} print 'a;", "'8");
        Bench.prints("for i in 3 {try {throw i;} finally {break;}} print i;", "0");
        Bench.prints("def f() {for i in 3 {try {return i;} finally {if i < 2 {continue;}}}} print f();", "2");
        Bench.prints("for i in 3 {try {throw i;} finally {for j in 2 {break;}}}", "throws 0");
        Bench.prints("try {throw 1;} finally {while true {break;} for j in 2 {continue;} print 2;}", "2 throws 1");
        Bench.prints("def f() {try {try {return 1;} finally {print 2;}} finally {print 3;}} print f();", "2 3 1");
        Bench.prints("for i in 2 {try {try {break;} finally {print 2;}} finally {print 3;}} print i;", "2 3 0");
        Bench.prints("while true {try {try {continue;} finally {print 2;}} finally {break;}} print 4;", "2 4");
        Bench.prints("def f() {for i in 2 {for j in 2 {try {return i;} finally {break;}} print j;}} print f();", "0 0 nil");
        Bench.prints("def f() {throw 1;} try {try {f();} finally {print 2;}} catch e {print e;}", "2 1");
        Bench.prints("def f() {try {throw 1;} finally {print 2;}} def g() {try {f();} finally {print 3;}} g();", "2 3 throws 1");
        Bench.prints("try {try {throw 1;} catch e {print e; throw 2;} finally {print 3;}} catch e {print e;} finally {print 4;}",
                "1 3 2 4");
        Bench.prints("def f() {try {return 1;} finally {try {return 2;} finally {print 3;}}} print f();", "3 2");
        Bench.prints("def f() {try {throw 1;} finally {try {throw 2;} catch e {} }} try {f();} catch e {print e;}", "1");
        Bench.prints("def f(x) {try {return x;} finally {x = 5;}} print f(3);", "3");
    }

    private static void finallyInGenerators() {
        Bench.prints("def g() {try {yield 1; yield 2;} finally {print 'a;}} for x in g() {print x;}", "1 2 '8");
        Bench.prints("def g() {try {yield 1; yield 2;} finally {print 'a;}} for x in g() {break;} collect; print 'b;", "'9");
        Bench.prints("def g() {try {throw 5;} finally {yield 1;}} var i = g(); print next i; try {next i;} catch e {print e;}", "1 5");
        Bench.prints("def g() {try {return;} finally {yield 1; yield 2;}} for x in g() {print x;}", "1 2");
        Bench.prints("def g() {for k in 2 {try {continue;} finally {yield k;}}} for x in g() {print x;}", "0 1");
        Bench.prints("def g() {try {yield 1; throw 2;} catch e {yield e;} finally {yield 3;}} for x in g() {print x;}", "1 2 3");
        Bench.prints("def g() {try {for x in h() {yield x;}} catch e {yield e;}} def h() {yield 1; throw 9;} for y in g() {print y;}",
                "1 9");
    }

    /** Runs a script for up to 90000 steps. */
    private static EmberScript longRun(String text) {
        EmberScript x = Bench.with(text);
        for (int n = 0; n < 450 && x.state() == 0; n++) {
            x.run(200);
        }
        return x;
    }

    // Far more scopes are made than there is room for at a time; those that are kept stay what they were.
    private static void manyScopes() {
        EmberScript x = longRun("def make(n) {return fun(k) {return fun() {return n * 1000 + k;};};}"
                + "var o = object {}; var c = nil; var r = 0;"
                + "def run(a) {c = make(a)(a + 1); if a == 3 {o.p = c;} if a == 400 {o.q = c;} return c();}"
                + "while r < 2500 {r = r + 1; if run(r) != r * 1001 + 1 {print r;}} print o.p(); print o.q();");
        Bench.is("state", x.state(), 1);
        Bench.is("printed", x.printed(), 2);
        Bench.is("o.p()", x.numberPrinted(1), 3004);
        Bench.is("o.q()", x.numberPrinted(0), 400401);
        // The variables of a new scope are nil, though others had it.
        x = longRun("def f(n) {if m != nil {print m;} var m = n; return m;} for i in 3000 {f(i);} print 'ok;");
        Bench.is("state", x.state(), 1);
        Bench.is("printed", x.printed(), 1);
        // Generators that wait, that have not begun, and frames that wait keep theirs.
        x = longRun("def f(n) {var a = n; return a;} def g(n) {var k = n; yield k; yield k + 1; yield k + 2;}"
                + "var a = g(10); var b = g(20); var c = fun(n) {return fun() {yield n;};}(30)(); next a;"
                + "def deep(n) {var m = n + 9; if n > 0 {deep(n - 1);} else {for i in 2500 {f(i);}} if m != n + 9 {print m;}}"
                + "deep(5); print next a; print next b; print next c;");
        Bench.is("state", x.state(), 1);
        Bench.is("printed", x.printed(), 3);
        Bench.is("the one that waited", x.numberPrinted(2), 11);
        Bench.is("the one that had not begun", x.numberPrinted(1), 20);
        Bench.is("the scope round the last", x.numberPrinted(0), 30);
        // A generator keeps its own as it runs.
        x = longRun("def f(n) {var a = n; return a;} def g(n) {var k = n; for i in 2500 {f(i);} yield k;} print next g(7);"
                + "print next fun(n) {return fun() {for i in 2500 {f(i);} yield n;};}(8)();");
        Bench.is("state", x.state(), 1);
        Bench.is("the running one", x.numberPrinted(1), 7);
        Bench.is("the scope round it", x.numberPrinted(0), 8);
    }
}
