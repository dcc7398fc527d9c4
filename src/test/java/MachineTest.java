/** Promises 6 to 18 and 24 to 31: running, interrupting, and what the machine tells of itself. */
public final class MachineTest {
    public static void main(String[] args) {
        running();
        steps();
        generatorSteps();
        interrupting();
        interruptedGenerators();
        places();
        loops();
        guards();
        frames();
        variables();
        prints();
        thrown();
        Bench.end("MachineTest");
    }

    private static void running() {
        EmberScript x = Bench.with("var a = 1; var b = 2; var c = 3;");
        Bench.is("state ahead", x.state(), 0);
        Bench.is("steps ahead", x.steps(), 0);
        Bench.refusesArgument("run(0)", () -> x.run(0));
        Bench.refusesArgument("run(201)", () -> x.run(201));
        Bench.refusesArgument("run(-1)", () -> x.run(-1));
        Bench.is("steps behind refusals", x.steps(), 0);
        Bench.is("run(1)", x.run(1), 1);
        Bench.is("kindOf(0)", x.kindOf(0), 2);
        Bench.is("kindOf(1)", x.kindOf(1), 0);
        Bench.is("run(1)", x.run(1), 1);
        Bench.is("numberOf(1)", x.numberOf(1), 2);
        Bench.is("state", x.state(), 0);
        Bench.is("run(200)", x.run(200), 1);
        Bench.is("state behind the end", x.state(), 1);
        Bench.is("steps", x.steps(), 3);
        Bench.refusesState("run behind the end", () -> x.run(1));
        Bench.refusesArgument("run(0) behind the end", () -> x.run(0));
        Bench.refusesArgument("run(201) behind the end", () -> x.run(201));
        EmberScript y = Bench.with("while true {}");
        Bench.is("run(200)", y.run(200), 200);
        Bench.is("run(7)", y.run(7), 7);
        Bench.is("steps", y.steps(), 207);
        EmberScript z = Bench.with("throw 1; print 2;");
        Bench.is("run(5) of a throw", z.run(5), 1);
        Bench.is("state", z.state(), 2);
        Bench.refusesState("run behind a failure", () -> z.run(1));
    }

    /** Compares the steps that single runs count, one digit each. */
    private static void counts(String text, String due) {
        EmberScript x = Bench.with(text);
        StringBuilder got = new StringBuilder();
        for (int n = 0; n < 60 && x.state() == 0; n++) {
            got.append(x.run(1));
        }
        if (!got.toString().equals(due)) {
            Bench.is("steps of " + text + " were " + got + ", due are " + due, 0, 1);
        }
        Bench.is("steps of " + text, x.steps(), got.chars().map(c -> c - '0').sum());
    }

    private static void steps() {
        counts("var a = 1; a = 2; a; print a; collect; throw a;", "111111");
        counts("if 1 {print 1;} else {print 2;} if nil {print 3;}", "111");
        counts("try {print 1;} finally {print 2;}", "111");
        counts("try {throw 1;} catch e {print 2;}", "111");
        counts("while nil {} print 1;", "11");
        counts("var n = 0; while n < 2 {n = n + 1;} print n;", "1111111");
        counts("for i in 2 {} print 1;", "1111");
        counts("for i in 3 {if i == 0 {continue;} break;} print 1;", "1111111");
        counts("var f = fun() {}; f(); f() + 1;", "222");
        counts("def f() {} f(); print 1;", "221");
        counts("def f() {return 1;} print f() + f();", "2221");
        counts("object {}; object {a = object {}}; weak object {}; weak fun() {};", "2333");
        counts("var o = object {}; o.a = 1; print o.a; var w = weak o; print w();", "21121");
        counts("def f(n) {if n > 0 {f(n - 1);}} f(2);", "2212121");
        counts("def f() {throw 1;} try {f();} catch e {} print 2;", "21211");
        counts("nil(1, 2);", "1");
    }

    private static void generatorSteps() {
        // Making one, asking it, its statements; asking it once more behind its last yield.
        counts("def g() {yield 1;} var i = g(); next i; try {next i;} catch e {}", "222112");
        counts("def g() {yield 1;} for x in g() {print x;}", "23112");
        counts("def g() {yield 1;} var i = g(); for x in i {} for x in i {} print 1;", "2221211");
        EmberScript x = Bench.with("def g() {yield 1; yield 2;} var i = g(); next i;");
        x.run(4);
        Bench.is("steps ahead of asking", x.steps(), 4);
        Bench.is("run(1): the statement, and its frame", x.run(1), 2);
        Bench.is("place", x.place(), 9);
        Bench.is("run(1): the yield", x.run(1), 1);
        Bench.is("state", x.state(), 1);
    }

    private static void interrupting() {
        EmberScript x = Bench.with("try {print 1; print 2;} catch e {print e;} print 3;");
        Bench.refusesIndex("interrupt(-1)", () -> x.interrupt(-1));
        Bench.refusesIndex("interrupt(8)", () -> x.interrupt(8));
        x.run(2);
        Bench.is("place", x.place(), 14);
        Bench.is("interrupt(3)", x.interrupt(3), 0);
        Bench.is("steps", x.steps(), 2);
        Bench.is("place in the catch", x.place(), 33);
        Bench.is("kind of e", x.kindOf(0), 3);
        Bench.is("number of e", x.numberOf(0), 3);
        Bench.is("interrupt in the catch", x.interrupt(1), 2);
        Bench.is("kindThrown", x.kindThrown(), 3);
        Bench.is("numberThrown", x.numberThrown(), 1);
        Bench.is("printed", x.printed(), 1);
        Bench.refusesState("interrupt behind a failure", () -> x.interrupt(0));
        Bench.refusesIndex("interrupt(8) behind a failure", () -> x.interrupt(8));
        EmberScript y = Bench.with("print 1;");
        y.run(1);
        Bench.refusesState("interrupt behind the end", () -> y.interrupt(0));
        // It goes on till the machine stands, in calls that come on the way, too.
        EmberScript w = Bench.with("def f() {try {print 1;} catch e {}} def k() {} print f() == k(); print 5;");
        w.run(7);
        Bench.is("place in f", w.place(), 14);
        Bench.is("steps in f", w.steps(), 7);
        Bench.is("interrupt", w.interrupt(0), 0);
        Bench.is("steps behind the interrupt", w.steps(), 8);
        Bench.is("printed", w.printed(), 1);
        Bench.is("kindPrinted", w.kindPrinted(0), 1);
        Bench.is("numberPrinted", w.numberPrinted(0), 1);
        Bench.is("interrupt to the end", Bench.with("try {print 1;} catch e {}").state(), 0);
        EmberScript v = Bench.with("try {print 1;} catch e {}");
        v.run(1);
        Bench.is("interrupt to the end", v.interrupt(2), 1);
        Bench.is("steps", v.steps(), 1);
        // A finally comes first, and its steps are not taken by interrupt.
        EmberScript u = Bench.with("try {print 1;} finally {print 2;} print 3;");
        u.run(1);
        Bench.is("interrupt with a finally", u.interrupt(4), 0);
        Bench.is("place", u.place(), 24);
        Bench.is("run", u.run(200), 1);
        Bench.is("state", u.state(), 2);
        Bench.is("numberThrown", u.numberThrown(), 4);
    }

    private static void interruptedGenerators() {
        EmberScript x = Bench.with("def g() {yield 1; yield 2;} var i = g(); try {next i;} catch e {} next i;");
        x.run(6);
        Bench.is("frames", x.frames(), 1);
        Bench.is("stateOf", x.stateOf(1), 2);
        Bench.is("interrupt", x.interrupt(0), 0);
        Bench.is("stateOf an interrupted one", x.stateOf(1), 3);
        Bench.is("frames", x.frames(), 0);
        x.run(1);
        Bench.is("numberThrown", x.numberThrown(), 6);
        // At a for behind a round, the for is left.
        EmberScript y = Bench.with("try {for i in 3 {}} catch e {print i;}");
        y.run(2);
        Bench.is("place", y.place(), 5);
        Bench.is("loops", y.loops(), 1);
        Bench.is("interrupt at a for", y.interrupt(0), 0);
        Bench.is("loops", y.loops(), 0);
        Bench.is("steps", y.steps(), 2);
    }

    private static void places() {
        EmberScript x = Bench.with(" print 1;\n def f() { print 2; }  while nil {} if 1 { f(); }");
        int[] due = {1, 11, 33, 46, 53, 21, -1};
        for (int n = 0; n < due.length; n++) {
            Bench.is("place", x.place(), due[n]);
            if (x.state() == 0) {
                x.run(1);
            }
        }
        EmberScript y = Bench.with("for i in 2 {print i;} while i < 2 {i = i + 1;}");
        int[] rounds = {0, 12, 0, 12, 0, 22, 35, 22, -1};
        for (int n = 0; n < rounds.length; n++) {
            Bench.is("place", y.place(), rounds[n]);
            if (y.state() == 0) {
                y.run(1);
            }
        }
        EmberScript z = Bench.with("throw 1;");
        Bench.is("place", z.place(), 0);
        z.run(1);
        Bench.is("place behind a failure", z.place(), -1);
    }

    private static void loops() {
        EmberScript x = Bench.with("for i in 1 {while i < 1 {i = i + 1;} def f() {for j in 1 {j;} 5;} f();} 6;");
        int[] due = {0, 1, 2, 2, 1, 1, 0, 1, 1, 0, 1, 0, 0};
        int[] frames = {0, 0, 0, 0, 0, 0, 1, 1, 1, 1, 0, 0, 0};
        for (int n = 0; n < due.length; n++) {
            Bench.is("loops " + n, x.loops(), due[n]);
            Bench.is("frames " + n, x.frames(), frames[n]);
            if (x.state() == 0) {
                x.run(1);
            }
        }
        EmberScript y = Bench.with("for i in 2 {throw 1;}");
        y.run(200);
        Bench.is("loops behind a failure", y.loops(), 0);
    }

    private static void guards() {
        EmberScript x = Bench.with("1; try {2; try {3;} finally {4;} throw 5;} catch e {6;} finally {7;} 8;");
        int[] due = {0, 0, 1, 1, 1, 1, 1, 0, 0, 0, 0};
        for (int n = 0; n < due.length; n++) {
            Bench.is("isGuarded " + n, x.isGuarded(), due[n] == 1);
            if (x.state() == 0) {
                x.run(1);
            }
        }
        EmberScript y = Bench.with("def f() {1;} def g() {yield 2; yield 3;} try {f(); for i in g() {4;}} catch e {} var j = g(); next j;");
        y.run(5);
        Bench.is("place in the try", y.place(), 46);
        y.run(1);
        Bench.is("frames in f", y.frames(), 1);
        Bench.is("isGuarded in f", y.isGuarded(), true);
        y.run(2);
        Bench.is("place in g", y.place(), 22);
        Bench.is("isGuarded in g", y.isGuarded(), true);
        EmberScript z = Bench.with("def g() {try {yield 1; 2;} catch e {}} var i = g(); next i; 3; next i;");
        z.run(6);
        Bench.is("place in g", z.place(), 9);
        Bench.is("isGuarded ahead of the try", z.isGuarded(), false);
        z.run(1);
        Bench.is("place in the try of g", z.place(), 14);
        Bench.is("isGuarded in g", z.isGuarded(), true);
        z.run(1);
        Bench.is("isGuarded as g waits", z.isGuarded(), false);
        z.run(2);
        Bench.is("isGuarded in g again", z.isGuarded(), true);
        EmberScript w = Bench.with("try {while true {}} catch e {} try {fun() {1;}();} finally {}");
        w.run(1);
        Bench.is("isGuarded at a while in a try", w.isGuarded(), true);
        w.run(3);
        Bench.is("isGuarded at a while behind a round", w.isGuarded(), true);
        w.interrupt(0);
        Bench.is("isGuarded behind it", w.isGuarded(), false);
        w.run(2);
        Bench.is("frames in a try without catch", w.frames(), 1);
        Bench.is("isGuarded in a try without catch", w.isGuarded(), false);
        EmberScript v = Bench.with("try {try {throw 1;} catch e {2;} finally {3;}} catch e {}");
        v.run(3);
        Bench.is("place in the inner catch", v.place(), 29);
        Bench.is("isGuarded in the inner catch", v.isGuarded(), true);
        v.run(1);
        Bench.is("isGuarded in the inner finally", v.isGuarded(), true);
    }

    private static void frames() {
        EmberScript x = Bench.with("def f(n) {if n > 0 {f(n - 1);} 7;} def g() {yield f(0);} f(2); next g();");
        x.run(4);
        Bench.is("frames ahead", x.frames(), 0);
        Bench.is("functionNow ahead", x.functionNow(), -1);
        x.run(1);
        Bench.is("frames in f(2)", x.frames(), 1);
        Bench.is("functionNow", x.functionNow(), 0);
        x.run(2);
        Bench.is("frames in f(1)", x.frames(), 2);
        x.run(3);
        Bench.is("frames in f(0)", x.frames(), 3);
        x.run(2);
        Bench.is("frames behind f(0)", x.frames(), 2);
        x.run(2);
        Bench.is("frames behind all", x.frames(), 0);
        x.run(1);
        Bench.is("frames in g", x.frames(), 1);
        Bench.is("functionNow in g", x.functionNow(), 1);
        x.run(1);
        Bench.is("frames in f in g", x.frames(), 2);
        Bench.is("functionNow in f", x.functionNow(), 0);
        x.interrupt(0);
        Bench.is("frames behind a failure", x.frames(), 0);
        Bench.is("functionNow behind a failure", x.functionNow(), -1);
    }

    private static void variables() {
        EmberScript x = Bench.done("var a = nil; var b = true; var c = -5; var d = 'full; var e = object {}; def f() {}"
                + "def g() {yield 1;} var h = g(); var i = weak e;");
        int[] kinds = {0, 1, 2, 3, 4, 5, 5, 6, 7};
        int[] numbers = {0, 1, -5, 5, 0, 1, 2, 3, 4};
        for (int n = 0; n < kinds.length; n++) {
            Bench.is("kindOf " + n, x.kindOf(n), kinds[n]);
            Bench.is("numberOf " + n, x.numberOf(n), numbers[n]);
        }
        Bench.is("variables", x.variables(), 9);
        Bench.refusesIndex("kindOf(9)", () -> x.kindOf(9));
        Bench.refusesIndex("kindOf(-1)", () -> x.kindOf(-1));
        Bench.refusesIndex("numberOf(9)", () -> x.numberOf(9));
        Bench.refusesIndex("numberOf(-1)", () -> x.numberOf(-1));
        Bench.refusesIndex("setNumber(9)", () -> x.setNumber(9, 1));
        Bench.refusesIndex("setNumber(-1)", () -> x.setNumber(-1, 1));
        Bench.is("setNumber of an object", x.setNumber(4, -2147483648), 4);
        Bench.is("kindOf", x.kindOf(4), 2);
        Bench.is("numberOf", x.numberOf(4), -2147483648);
        Bench.is("setNumber of a number", x.setNumber(4, 7), 2);
        EmberScript y = Bench.with("var a = 0; while a < 100 {} print a;");
        y.run(20);
        Bench.is("setNumber of 0", y.setNumber(0, 100), 2);
        y.run(200);
        Bench.is("numberPrinted", y.numberPrinted(0), 100);
        Bench.is("state", y.state(), 1);
    }

    private static void prints() {
        EmberScript x = Bench.with("for i in 50 {print i;} print 'a;");
        Bench.is("printed ahead", x.printed(), 0);
        Bench.refusesIndex("kindPrinted without prints", () -> x.kindPrinted(0));
        Bench.refusesIndex("numberPrinted without prints", () -> x.numberPrinted(0));
        x.run(6);
        Bench.is("printed", x.printed(), 3);
        Bench.is("numberPrinted(0)", x.numberPrinted(0), 2);
        Bench.is("numberPrinted(2)", x.numberPrinted(2), 0);
        Bench.refusesIndex("numberPrinted(3)", () -> x.numberPrinted(3));
        Bench.refusesIndex("kindPrinted(-1)", () -> x.kindPrinted(-1));
        x.run(200);
        Bench.is("printed", x.printed(), 51);
        Bench.is("kindPrinted(0)", x.kindPrinted(0), 3);
        Bench.is("numberPrinted(0)", x.numberPrinted(0), 8);
        Bench.is("kindPrinted(1)", x.kindPrinted(1), 2);
        Bench.is("numberPrinted(1)", x.numberPrinted(1), 49);
        Bench.is("numberPrinted(39)", x.numberPrinted(39), 11);
        Bench.refusesIndex("kindPrinted(40)", () -> x.kindPrinted(40));
        Bench.refusesIndex("numberPrinted(40)", () -> x.numberPrinted(40));
        Bench.refusesIndex("numberPrinted(-1)", () -> x.numberPrinted(-1));
    }

    private static void thrown() {
        EmberScript x = Bench.with("var o = object {}; throw o;");
        Bench.refusesState("kindThrown ahead", () -> x.kindThrown());
        Bench.refusesState("numberThrown ahead", () -> x.numberThrown());
        x.run(200);
        Bench.is("kindThrown", x.kindThrown(), 4);
        Bench.is("numberThrown", x.numberThrown(), 0);
        EmberScript y = Bench.done("print 1;");
        Bench.refusesState("kindThrown behind the end", () -> y.kindThrown());
        Bench.refusesState("numberThrown behind the end", () -> y.numberThrown());
    }
}
