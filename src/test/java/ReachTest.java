/** Promises 9, 17, 18 and 45 to 50, and section 7 of the document: what is reached, and what a collection frees. */
public final class ReachTest {
    public static void main(String[] args) {
        distances();
        retained();
        reaching();
        shares();
        refusals();
        scopes();
        frames();
        halfWayThrough();
        forLoops();
        finallyBlocks();
        anotherScript();
        thrownValues();
        runningGenerators();
        waitingGenerators();
        weakReferences();
        asThingsAreMade();
        Bench.end("ReachTest");
    }

    private static void distances() {
        EmberScript x = Bench.done("var a = object {n = object {n = object {n = object {}}}}; var b = object {}; b = nil;");
        Bench.is("distance(3)", x.distance(3), 1);
        Bench.is("distance(2)", x.distance(2), 2);
        Bench.is("distance(1)", x.distance(1), 3);
        Bench.is("distance(0)", x.distance(0), 4);
        Bench.is("distance(4)", x.distance(4), -1);
        Bench.is("isReached(0)", x.isReached(0), true);
        Bench.is("isReached(4)", x.isReached(4), false);
        Bench.is("garbage", x.garbage(), 1);
        Bench.is("collect", x.collect(), 1);
        Bench.is("garbage", x.garbage(), 0);
        EmberScript y = Bench.done("var a = object {}; var b = object like a {}; b.x = object {y = a}; a = nil; var c = object {}; c.c = c;");
        Bench.is("distance of a parent", y.distance(0), 2);
        Bench.is("distance of what refers to itself", y.distance(3), 1);
        y.setNumber(2, 1);
        Bench.is("garbage: what refers to itself", y.garbage(), 1);
    }

    private static void retained() {
        EmberScript x = Bench.done("var s = object {}; var a = object {n = object {s = s, m = object {}}}; var c = object {}; c.c = c;"
                + "object {s = s};");
        Bench.is("retained of what others reach, too", x.retained(0), 1);
        Bench.is("retained(1)", x.retained(1), 1);
        Bench.is("retained(2)", x.retained(2), 2);
        Bench.is("retained(3)", x.retained(3), 3);
        Bench.is("retained(4)", x.retained(4), 1);
        Bench.is("retained of what is garbage", x.retained(5), 0);
        Bench.is("nothing is changed", x.things(), 6);
        EmberScript y = Bench.done("var a = object {}; var b = object {a = a}; a.b = b; a = nil;");
        Bench.is("retained in a ring", y.retained(0), 1);
        Bench.is("retained of the one in front", y.retained(1), 2);
    }

    private static void reaching() {
        EmberScript x = Bench.done("var a = object {}; var b = object like a {c = object {}}; var r = object {}; r.r = object {r = r};"
                + "var g = object {}; g = object {g = g}; g = nil; var w = weak a;");
        Bench.is("reaches(0, 0)", x.reaches(0, 0), false);
        Bench.is("reaches(2, 0)", x.reaches(2, 0), true);
        Bench.is("reaches(2, 1)", x.reaches(2, 1), true);
        Bench.is("reaches(0, 2)", x.reaches(0, 2), false);
        Bench.is("reaches(3, 3)", x.reaches(3, 3), true);
        Bench.is("reaches(3, 4)", x.reaches(3, 4), true);
        Bench.is("reaches of what is not reached", x.reaches(6, 5), true);
        Bench.is("reaches of what is not reached", x.reaches(5, 6), false);
        Bench.is("reaches of a weak reference", x.reaches(7, 0), false);
        EmberScript y = Bench.done("var o = object {}; def f() {} var g = fun() {};");
        Bench.is("a function reaches the script's variables", y.reaches(1, 0), true);
        Bench.is("and itself by them", y.reaches(1, 1), true);
        Bench.is("and the others", y.reaches(1, 2), true);
        Bench.is("an object does not", y.reaches(0, 1), false);
    }

    private static void shares() {
        EmberScript x = Bench.with("object {}; var a = object {}; object {}; object {};");
        Bench.isShare("share without things", x.share(), 0.0);
        x.run(2);
        Bench.isShare("share of nothing kept", x.share(), 0.0);
        x.run(2);
        Bench.isShare("share", x.share(), 0.5);
        x.run(2);
        Bench.isShare("share", x.share(), 1.0 / 3.0);
        x.run(2);
        Bench.isShare("share", x.share(), 0.25);
        x.collect();
        Bench.isShare("share behind a collection", x.share(), 1.0);
    }

    private static void refusals() {
        EmberScript x = Bench.done("var a = object {};");
        for (int thing : new int[] {-1, 1, 47, 48, 1000}) {
            Bench.refusesIndex("isReached " + thing, () -> x.isReached(thing));
            Bench.refusesIndex("retained " + thing, () -> x.retained(thing));
            Bench.refusesIndex("distance " + thing, () -> x.distance(thing));
            Bench.refusesIndex("reaches " + thing, () -> x.reaches(thing, 0));
            Bench.refusesIndex("reaches 0 " + thing, () -> x.reaches(0, thing));
        }
    }

    private static void scopes() {
        // A function keeps the variables round it, but not those of its own calls.
        EmberScript x = Bench.done("def make(a) {var b = object {}; return fun() {var c = object {}; return a;};} var f = make(object {}); f();");
        Bench.is("the input", x.distance(1), 2);
        Bench.is("the variable", x.distance(2), 2);
        Bench.is("the function", x.distance(3), 1);
        Bench.is("the variable of its call", x.distance(4), -1);
        Bench.is("retained of the function", x.retained(3), 3);
        // All scopes round it.
        EmberScript y = Bench.done("var f = fun(a) {return fun(b) {return fun(c) {};};}(object {})(object {}); f = f;");
        Bench.is("things", y.things(), 5);
        Bench.is("the innermost", y.distance(4), 1);
        Bench.is("the variable of the outermost", y.distance(1), 2);
        Bench.is("the variable of the next", y.distance(3), 2);
        Bench.is("the functions on the way", y.garbage(), 2);
    }

    private static void frames() {
        EmberScript x = Bench.at("def f(a) {var b = object {}; #1;} object {m = f}.m(object {});");
        Bench.is("things", x.things(), 4);
        Bench.is("self", x.distance(1), 1);
        Bench.is("the input", x.distance(2), 1);
        Bench.is("the variable", x.distance(3), 1);
        Bench.is("garbage", x.garbage(), 0);
        EmberScript y = Bench.at("def make(a) {return fun() {#1;};} make(object {})();");
        Bench.is("scopes round a frame's", y.distance(1), 1);
        Bench.is("the function that was called is not held", y.distance(2), -1);
        EmberScript z = Bench.at("def f(a) {g();} def g() {#1;} f(object {});");
        Bench.is("a frame that waits", z.distance(2), 1);
    }

    private static void halfWayThrough() {
        String f = "def f() {#1;} ";
        Bench.is("left side of an operator", Bench.at(f + "object {} == f();").distance(1), 1);
        Bench.is("left side of a comparison", Bench.at(f + "object {} < f();").distance(1), 1);
        Bench.is("left side of and", Bench.at(f + "object {} and f();").distance(1), -1);
        Bench.is("left side of or", Bench.at(f + "nil or f() or object {};").things(), 1);
        Bench.is("a value ahead", Bench.at(f + "nil(object {}, f());").distance(1), 1);
        Bench.is("what is called", Bench.at(f + "object {}(f());").distance(1), 1);
        Bench.is("a function that is called", Bench.at(f + "fun(a) {}(f());").distance(1), 1);
        EmberScript x = Bench.at(f + "object {m = object {}}.m(f());");
        Bench.is("the object of a method", x.distance(2), 1);
        Bench.is("the method", x.distance(1), 1);
        Bench.is("the object of an assignment", Bench.at(f + "object {}.a = f();").distance(1), 1);
        x = Bench.at(f + "object like object {} {a = object {}, b = f()};");
        Bench.is("the parent in braces", x.distance(1), 1);
        Bench.is("the slots in braces", x.distance(2), 1);
        Bench.is("what is turned", Bench.at(f + "not (object {} == f());").distance(1), 1);
        Bench.is("what was printed", Bench.at("def f() {#1;} print object {}; f();").distance(1), -1);
        Bench.is("a call that began", Bench.at("def f(a) {a = nil; #1;} f(object {});").distance(1), -1);
        Bench.is("what was asked for nothing", Bench.at("def g() {yield 1;} #1; g();").things(), 1);
        // In each frame that waits, not only in the newest.
        x = Bench.at("def f(n) {if n > 0 {object {} == f(n - 1);} else {#1;}} f(3);");
        Bench.is("things", x.things(), 4);
        Bench.is("garbage", x.garbage(), 0);
    }

    private static void forLoops() {
        EmberScript x = Bench.at("def g() {yield 1; yield 2;} for i in g() {#1;}");
        Bench.is("the generator of a for", x.distance(1), 1);
        Bench.is("collect", x.collect(), 0);
        x.run(1);
        x.run(1);
        Bench.is("it goes on", x.stateOf(1), 2);
        x = Bench.at("def g() {yield 1; yield 2;} for i in g() {break;} #1;");
        Bench.is("the generator of a for that is over", x.distance(1), -1);
        x = Bench.at("def g() {yield 1;} for i in g() {} #1;");
        Bench.is("the generator of a for that is at its end", x.distance(1), -1);
        x = Bench.at("def g() {yield 1; yield 2;} try {for i in g() {throw 1;}} catch e {#1;}");
        Bench.is("the generator of a for that was left", x.distance(1), -1);
        x = Bench.at("def g() {yield 1; yield 2;} def f() {for i in g() {k();}} def k() {#1;} f();");
        Bench.is("the generator of a for of a frame that waits", x.distance(3), 1);
    }

    private static void finallyBlocks() {
        EmberScript x = Bench.at("try {throw object {};} finally {#1;}");
        Bench.is("what a finally will throw", x.distance(0), 1);
        x = Bench.at("def f() {try {return object {};} finally {#1;}} f();");
        Bench.is("what a finally will return", x.distance(1), 1);
        x = Bench.at("def f() {try {return object {};} finally {while true {break;} k();}} def k() {#1;} f();");
        Bench.is("what a finally of a frame that waits will return", x.distance(2), 1);
        x = Bench.at("try {try {throw object {};} finally {throw 1;}} catch e {#1;}");
        Bench.is("what another came in the place of", x.distance(0), -1);
        x = Bench.at("try {throw object {};} catch e {e = nil; #1;}");
        Bench.is("what was caught", x.distance(0), -1);
        x = Bench.at("try {throw object {};} catch e {} finally {e = nil; #1;}");
        Bench.is("what was caught ahead of a finally", x.distance(0), -1);
        x = Bench.at("def f() {try {throw object {};} finally {try {throw object {};} finally {#1;}}} f();");
        Bench.is("both of two", x.garbage(), 0);
        x = Bench.at("def f() {while true {try {return object {};} finally {break;}} #1;} f();");
        Bench.is("a return that break came in the place of", x.distance(1), -1);
    }

    /** What another script was in the middle of is forgotten as one is loaded. */
    private static void anotherScript() {
        EmberScript x = Bench.at("def f() {#1;} try {throw object {};} finally {object {} == f();}");
        Bench.is("garbage", x.garbage(), 0);
        Bench.is("load", Bench.load(x, "object {}; object {}; 1;"), 0);
        x.run(4);
        Bench.is("garbage of the new script", x.garbage(), 2);
    }

    private static void thrownValues() {
        EmberScript x = Bench.done("throw object {a = object {}};");
        Bench.is("state", x.state(), 2);
        Bench.is("what was thrown", x.distance(1), 1);
        Bench.is("what it reaches", x.distance(0), 2);
        Bench.is("collect", x.collect(), 0);
        EmberScript y = Bench.done("def f(a) {throw 1;} f(object {});");
        Bench.is("the frames are gone", y.distance(1), -1);
    }

    private static void runningGenerators() {
        EmberScript x = Bench.at("def g(a) {#yield 1;} next g(object {});");
        Bench.is("a running generator", x.distance(2), 1);
        Bench.is("its variable", x.distance(1), 1);
        Bench.is("it does not reach itself", x.reaches(2, 2), false);
        Bench.is("it reaches its variable", x.reaches(2, 1), true);
        Bench.is("retained", x.retained(2), 1);
        x = Bench.at("def g() {object {} == f(); yield 1;} def f() {#1;} next g();");
        Bench.is("things", x.things(), 4);
        Bench.is("a running generator reaches what it has worked out", x.reaches(2, 3), true);
        Bench.is("which its frame holds, too", x.distance(3), 1);
        x = Bench.at("def g() {object {} == next h(); yield 1;} def h() {object {}; #yield 1;} next g();");
        Bench.is("things", x.things(), 6);
        Bench.is("what the outer one has worked out", x.reaches(2, 3), true);
        Bench.is("but not the inner one", x.reaches(4, 3), false);
        Bench.is("garbage", x.garbage(), 1);
        x = Bench.at("def g() {object {} == f(); yield 1;} def f() {object {} == k();} def k() {#1;} next g();");
        Bench.is("things", x.things(), 6);
        Bench.is("what a generator has worked out", x.reaches(3, 4), true);
        Bench.is("what a function that it called has worked out", x.reaches(3, 5), false);
        Bench.is("garbage", x.garbage(), 0);
        // The thing with the number 0 is as good as any other.
        x = Bench.at("object {}; var f = fun() {#yield 1;}; collect; next f();");
        Bench.is("kindOfThing", x.kindOfThing(0), 6);
        Bench.is("a running generator with the number 0", x.distance(0), 1);
        x.run(1);
        Bench.is("as it waits", x.distance(0), -1);
        x = Bench.done("object {}; var f = fun() {yield 1;}; collect; var i = f(); next i; try {next i;} catch e {}");
        Bench.is("number", x.numberOf(1), 0);
        Bench.is("stateOf as it has ended", x.stateOf(0), 3);
        Bench.is("thrown", x.numberOf(2), 6);
        x = Bench.done("object {}; var f = fun() {throw 1; yield 1;}; collect; var i = f(); try {next i;} catch e {}");
        Bench.is("stateOf as it has thrown", x.stateOf(0), 3);
        Bench.is("thrown", x.numberOf(2), 1);
        // In another's variable it is reached, by itself, too.
        x = Bench.at("var i = nil; def g() {#yield 1;} i = g(); next i;");
        Bench.is("it reaches itself by a variable", x.reaches(1, 1), true);
    }

    private static void waitingGenerators() {
        EmberScript x = Bench.done("def g(a) {var b = object {}; yield 1; yield 2;} var i = g(object {});");
        Bench.is("the input ahead of its beginning", x.distance(1), 2);
        Bench.is("retained", x.retained(2), 2);
        x = Bench.at("def g(a) {var b = object {}; yield 1; yield 2;} var i = g(object {}); next i; #1; try {next i; next i;} catch e {}");
        Bench.is("its variables as it waits", x.distance(3), 2);
        Bench.is("retained", x.retained(2), 3);
        x.run(200);
        Bench.is("state", x.state(), 1);
        Bench.is("stateOf", x.stateOf(2), 3);
        Bench.is("an ended one reaches nothing", x.garbage(), 2);
        Bench.is("an ended one reaches nothing", x.reaches(2, 0), false);
        x = Bench.done("var m = object {g = fun() {yield self; yield 1;}}; var i = m.g(); m = nil;");
        Bench.is("its self", x.distance(1), 2);
        x = Bench.done("def h() {yield 1; yield 2;} def g() {for k in h() {yield k;}} var i = g(); next i; next i;");
        Bench.is("stateOf", x.stateOf(3), 1);
        Bench.is("the generator of its for", x.distance(3), 2);
        x = Bench.done("def g() {try {throw object {};} finally {yield 1;}} var i = g(); next i;");
        Bench.is("what its finally will throw", x.distance(2), 2);
        x = Bench.done("def make(a) {return fun() {yield 1;};} var i = make(object {})(); next i;");
        Bench.is("the scopes round it", x.distance(1), 2);
        Bench.is("but not its function", x.distance(2), -1);
        x = Bench.done("def g(a) {try {yield 1;} catch e {}} g(object {}); for k in g(object {}) {break;}");
        Bench.is("those that nothing reaches", x.garbage(), 4);
    }

    private static void weakReferences() {
        EmberScript x = Bench.done("var o = object {a = object {}}; var w = weak o; o = nil;");
        Bench.is("garbage", x.garbage(), 2);
        Bench.is("distance", x.distance(1), -1);
        Bench.is("reaches", x.reaches(2, 1), false);
        Bench.is("collect", x.collect(), 2);
        Bench.is("refersTo", x.refersTo(2), -1);
        EmberScript y = Bench.done("var o = object {}; o.w = weak o; print o.w();");
        Bench.is("collect", y.collect(), 0);
        Bench.is("refersTo", y.refersTo(1), 0);
    }

    private static final String FILL = "var o = nil; for i in %d {o = object {a = o};} ";

    /** Runs a script behind the making of this many things, and compares what is printed then. */
    private static void filled(int count, String text, String due) {
        Bench.prints(String.format(FILL, count) + text, due);
    }

    private static void asThingsAreMade() {
        // 47 are there, the 48th is made of what is only being worked out; the rest can be freed.
        filled(47, "o = nil; var w = weak object {}; print w();", "object47");
        filled(48, "o = nil; var w = weak object {}; print w(); collect; print w();", "object0 nil");
        filled(47, "o = nil; var p = object {b = object {c = 5}}; print p.b.c;", "5");
        filled(47, "o = nil; var p = object like object {c = 5} {}; print p.c;", "5");
        filled(46, "def g(a) {yield a.c;} o = nil; var j = g(object {c = 5}); print next j;", "5");
        filled(46, "o = nil; var j = object {c = 5, g = fun() {yield self.c;}}; object {}; object {}; print j.c;", "5");
        filled(46, "o = nil; var j = object {c = 5, g = fun() {yield self.c;}}.g(); print next j;", "5");
        filled(45, "def make(a) {return fun() {yield a.c;};} o = nil; var j = make(object {c = 5})(); print next j;", "5");
        EmberScript y = Bench.done(String.format(FILL, 45)
                + "def make(a) {return fun() {yield a.c;};} o = nil; var j = make(object {c = 5})();");
        Bench.is("collections", y.collections(), 1);
        Bench.is("freed: all but make, and what is in the scope round the generator", y.freed(), 46);
        Bench.is("what is there: those, and the generator", y.things(), 3);
        Bench.is("the variable of the scope round the generator", y.distance(46), 2);
        // The function that was called is not kept: its number is the new generator's, or free for the next.
        EmberScript x = new EmberScript();
        Bench.load(x, String.format(FILL, 47) + "var j = fun() {yield 1;}();");
        for (int n = 0; n < 10 && x.state() == 0; n++) {
            x.run(200);
        }
        Bench.is("state", x.state(), 1);
        Bench.is("collections", x.collections(), 1);
        Bench.is("freed: the function", x.freed(), 1);
        Bench.is("number of the generator", x.numberOf(2), 47);
        Bench.is("kind of the generator", x.kindOf(2), 6);
        // But what is called is held while the values are worked out.
        filled(46, "fun(a, b) {print a.c;}(object {c = 1}, object {}); print 2;", "throws 'full");
        filled(45, "fun(a, b) {print a.c;}(object {c = 1}, object {}); print 2;", "1 2");
        // The values of a call are not held once it began.
        filled(46, "def f(a) {a = nil; object {}; return 3;} print f(object {});", "3");
        // The left side of and is not held.
        filled(47, "object {} and object {}; print 1;", "1");
        filled(47, "object {} == object {}; print 1;", "throws 'full");
        // What is thrown as there is no room leaves the frame as it was.
        filled(48, "try {object {};} catch e {print e;} o = o.a; object {}; print 2;", "'full 2");
        Bench.prints("var n = 0; try {while true {n = object {n = n};}} catch e {print e;} n = n.n; object {}; n = n.n; object {}; print 1;",
                "'full 1");
    }
}
