import java.util.ArrayList;
import java.util.List;

/**
 * Section 7 of the document with the rows right behind it, and promises 32 to 56: each sentence that names a boundary
 * has a test of its own, named after where it stands, which quotes it.
 */
public final class ThingEdges {
    private static final int[] NO_THINGS = {-1, 5, 47, 48, 1000, Integer.MIN_VALUE, Integer.MAX_VALUE};

    public static void main(String[] args) {
        Bench.runAll(ThingEdges.class);
    }

    /** One thing of each kind: 0 an object with one slot, 1 and 2 functions, 3 a generator, 4 a weak reference. */
    private static EmberScript zoo() {
        return Bench.done("var o=object{a=7}; def f(){} def g(){yield 1;} var i=g(); var w=weak o;");
    }

    // ---- section 7: what is directly reached by the script

    /** "the values of its variables" */
    static void section7Variables() {
        EmberScript x = Bench.done("var a=object{}; object{};");
        Bench.is("of a variable", x.distance(0), 1);
        Bench.is("of none", x.distance(1), -1);
        x.setNumber(0, 0);
        Bench.is("a number with the number of a thing", x.distance(0), -1);
        StringBuilder text = new StringBuilder();
        for (int n = 0; n < 16; n++) {
            text.append("var v").append(n).append("=object{};");
        }
        EmberScript y = Bench.done(text.toString());
        Bench.is("of 16 variables", y.garbage(), 0);
        Bench.is("of the last of them", y.distance(15), 1);
    }

    /** "the value that was thrown, if it has failed" */
    static void section7WhatWasThrown() {
        EmberScript x = Bench.done("throw object{};");
        Bench.is("it has failed", x.distance(0), 1);
        Bench.is("collect", x.collect(), 0);
        EmberScript y = Bench.done("try{throw object{};}catch e{e=nil;}");
        Bench.is("it was caught", y.distance(0), -1);
        Bench.is("load behind a failure", Bench.load(x, "object{};"), 0);
        x.run(1);
        Bench.is("of another script", x.distance(0), -1);
    }

    /** "A frame holds the values of the variables of its scope, and of the scopes round it" */
    static void section7Scopes() {
        EmberScript x = Bench.at("fun(a){var b=object{}; #1;}(object{});");
        Bench.is("an input", x.distance(1), 1);
        Bench.is("a variable", x.distance(2), 1);
        Bench.is("its function", x.distance(0), -1);
        EmberScript y = Bench.at("fun(a){return fun(b){return fun(){#1;};};}(object{})(object{})();");
        Bench.is("of the outermost scope", y.distance(1), 1);
        Bench.is("of the next", y.distance(3), 1);
        Bench.is("garbage: the three functions", y.garbage(), 3);
        EmberScript w = Bench.at("def f(a,b,c,d,e,f){var g=object{}; var h=object{}; var i=object{}; var j=object{}; #1;}"
                + "f(object{},object{},object{},object{},object{},object{});");
        Bench.is("10 variables and the function", w.things(), 11);
        Bench.is("of 10 variables", w.garbage(), 0);
        EmberScript z = Bench.at("def f(a){g();} def g(){#1;} f(object{});");
        Bench.is("of a frame that waits", z.distance(2), 1);
        z.run(1);
        Bench.is("of a frame that is gone", z.state() + z.distance(2), 0);
    }

    /** "self" */
    static void section7Self() {
        EmberScript x = Bench.at("object{m=fun(){#1;}}.m();");
        Bench.is("self", x.distance(1), 1);
        Bench.is("the method, by self", x.distance(0), 2);
        EmberScript y = Bench.at("def g(){#1;} object{m=fun(){g();}}.m();");
        Bench.is("self of a frame that waits", y.distance(2), 1);
        EmberScript z = Bench.at("def g(){#1;} object{m=fun(){return 2;}}.m(); g();");
        Bench.is("self of a frame that is gone", z.distance(2), -1);
    }

    /** "its generator, if it is that of one" */
    static void section7ItsGenerator() {
        EmberScript x = Bench.at("next fun(){#yield 1;}(); 2;");
        Bench.is("as it is running", x.distance(1), 1);
        Bench.is("its function", x.distance(0), -1);
        x.run(1);
        Bench.is("as it waits", x.distance(1), -1);
        EmberScript y = Bench.at("object{}; var f=fun(){#yield 1;}; collect; next f(); 2;");
        Bench.is("with the number 0", y.kindOfThing(0), 6);
        Bench.is("as it is running", y.distance(0), 1);
        y.run(1);
        Bench.is("as it waits", y.distance(0), -1);
    }

    /** "the generators that its for loops go through, from their first asking on" */
    static void section7GeneratorsOfForLoops() {
        EmberScript x = Bench.at("def g(){#yield 1; yield 2;} for i in g(){2;} 3;");
        Bench.is("at its first asking", x.distance(1), 1);
        x.run(1);
        Bench.is("place", x.place(), 40);
        Bench.is("in a round", x.distance(1), 1);
        x.run(1);
        Bench.is("behind a round", x.distance(1), 1);
        x.run(1);
        Bench.is("the second asking", x.stateOf(1), 2);
        x.run(3);
        Bench.is("place behind the loop", x.place(), 44);
        Bench.is("as it is over", x.distance(1), -1);
        Bench.is("as it was left", Bench.at("def g(){yield 1; yield 2;} for i in g(){break;} #1;").distance(1), -1);
        Bench.is("as its round goes on", Bench.at("def g(){yield 1; yield 2;} for i in g(){if i==1{continue;} #1;}").distance(1), 1);
        EmberScript y = Bench.at("def g(){yield 1;} def f(){#1;} def h(){for i in g(){for k in 1{f();}}} h();");
        Bench.is("of a frame that waits", y.distance(3), 1);
    }

    /** "what the finally blocks in which it is will throw, or return, behind them" */
    static void section7FinallyBlocks() {
        Bench.is("will throw", Bench.at("try{throw object{};}finally{#1;}").distance(0), 1);
        Bench.is("will throw behind a catch", Bench.at("try{throw 1;}catch e{throw object{};}finally{#1;}").distance(0), 1);
        Bench.is("will return", Bench.at("fun(){try{return object{};}finally{#1;}}();").distance(1), 1);
        Bench.is("came to its end", Bench.at("try{object{};}finally{#1;}").distance(0), -1);
        Bench.is("was caught", Bench.at("try{throw object{};}catch e{e=nil;}finally{#1;}").distance(0), -1);
        Bench.is("another came in its place", Bench.at("try{try{throw object{};}finally{throw 1;}}catch e{#1;}").distance(0), -1);
        EmberScript x = Bench.at("fun(){try{throw object{};}finally{try{return object{};}finally{#1;}}}();");
        Bench.is("of the outer one", x.distance(1), 1);
        Bench.is("of the inner one", x.distance(2), 1);
    }

    /** "the left side of an operator (but of and and or) while the right one is worked out" */
    static void section7LeftSides() {
        String f = "def f(){#1;} ";
        for (String sign : new String[] {"+", "-", "*", "/", "%", "<", ">", "<=", ">=", "==", "!="}) {
            Bench.is("left side of " + sign, Bench.at(f + "object{}" + sign + "f();").distance(1), 1);
        }
        Bench.is("left side of and", Bench.at(f + "object{} and f();").distance(1), -1);
        Bench.is("left side of or", Bench.at(f + "(object{} and nil) or f();").distance(1), -1);
        Bench.is("behind the right side", Bench.at("object{}==1; #2;").distance(0), -1);
        Bench.is("behind what was thrown by the right side", Bench.at("try{object{}==nil.a;}catch e{#2;}").distance(0), -1);
        EmberScript x = Bench.at(f + "object{}==(object{}==(object{}!=f()));");
        Bench.is("of three operators", x.distance(1) + x.distance(2) + x.distance(3), 3);
    }

    /** "in a call, what is called, the object of a method, and the values in ( ), till the call begins" */
    static void section7Calls() {
        String f = "def f(){#1;} ";
        Bench.is("what is called", Bench.at(f + "fun(a){}(f());").distance(1), 1);
        EmberScript x = Bench.at(f + "object{m=fun(a,b){}}.m(object{},f());");
        Bench.is("the method", x.distance(1), 1);
        Bench.is("the object of a method", x.distance(2), 1);
        Bench.is("a value", x.distance(3), 1);
        EmberScript y = Bench.at(f + "nil(object{},object{},object{},object{},object{},f());");
        Bench.is("five values", y.garbage(), 0);
        EmberScript w = Bench.at("(weak object{})(); #1;");
        Bench.is("a weak reference that was called", w.distance(1), -1);
        Bench.is("what it gave", w.distance(0), -1);
        EmberScript z = Bench.at("fun(a){a=nil; #1;}(object{});");
        Bench.is("what is called, as the call began", z.distance(0), -1);
        Bench.is("a value, as the call began", z.distance(1), -1);
    }

    /** "in braces, the parent and the values of the slots" */
    static void section7Braces() {
        EmberScript x = Bench.at("def f(){#1;} object like object{}{a=object{},b=object{},c=f()};");
        Bench.is("the parent", x.distance(1), 1);
        Bench.is("the first slot", x.distance(2), 1);
        Bench.is("the second slot", x.distance(3), 1);
    }

    /** "in an assignment, the object" */
    static void section7Assignments() {
        Bench.is("the object", Bench.at("def f(){#1;} object{}.a=f();").distance(1), 1);
        Bench.is("the value that the variable had is its own", Bench.at("def f(){#1;} var o=object{}; o=f();").distance(1), 1);
        Bench.is("behind it", Bench.at("object{}.a=1; #1;").distance(0), -1);
    }

    private static String fill(int count) {
        return "var o=nil; for i in " + count + "{o=object{a=o};} ";
    }

    /** "If a collection comes as a thing is to be made, all that it will directly reach .. is directly reached, too" */
    static void section7AsAnObjectIsMade() {
        Bench.prints(fill(47) + "o=nil; var p=object{b=object{c=5}}; print p.b.c;", "5");
        Bench.prints(fill(47) + "o=nil; var p=object like object{c=5}{}; print p.c;", "5");
        Bench.prints(fill(47) + "object{b=object{}}; print 1;", "throws 'full");
        Bench.prints(fill(46) + "object{b=object{}}; print 1;", "1");
    }

    /** "and that to which it will refer" */
    static void section7AsAWeakReferenceIsMade() {
        Bench.prints(fill(47) + "o=nil; var w=weak object{}; print w(); collect; print w();", "object47 nil");
        Bench.prints(fill(47) + "var w=weak object{};", "throws 'full");
        Bench.prints(fill(46) + "var w=weak object{}; print w;", "weak47");
    }

    /** As a function is made, it is its scope that it will directly reach. */
    static void section7AsAFunctionIsMade() {
        Bench.prints(fill(46) + "o=nil; var f=fun(a){return fun(){return a.c;};}(object{c=5}); print f();", "5");
        Bench.prints(fill(46) + "def h(a){return fun(){};} h(object{}); print 1;", "throws 'full");
        Bench.prints(fill(45) + "def h(a){return fun(){};} h(object{}); print 1;", "1");
        // The function that was called is no longer held, as its call has begun.
        Bench.prints(fill(46) + "fun(a){return fun(){};}(object{}); print 1;", "1");
    }

    /** As a generator is made, these are its inputs, the scopes round it, and self. */
    static void section7AsAGeneratorIsMade() {
        Bench.prints(fill(46) + "def g(a){yield a.c;} o=nil; var j=g(object{c=5}); print next j;", "5");
        Bench.prints(fill(46) + "o=nil; var j=object{c=5,m=fun(){yield self.c;}}.m(); print next j;", "5");
        Bench.prints(fill(45) + "o=nil; var j=fun(a){return fun(){yield a.c;};}(object{c=5})(); print next j;", "5");
        EmberScript x = Bench.done(fill(45) + "o=nil; var j=fun(a){return fun(){yield a.c;};}(object{c=5})();");
        Bench.is("collections", x.collections(), 1);
        Bench.is("freed: the objects, and the two functions", x.freed(), 47);
        Bench.is("what is in the scope round it", x.isThere(46), true);
        Bench.prints(fill(47) + "fun(a){yield a;}(o); print 1;", "1");
        Bench.prints(fill(46) + "fun(a){yield a;}(object{}); print 1;", "1");
        // The object of the method, and the method that is its slot's, stay.
        Bench.prints(fill(46) + "object{m=fun(){yield 1;}}.m();", "throws 'full");
    }

    /** "(but not the function that was called, as a generator is made)" */
    static void section7NotTheFunctionOfAGenerator() {
        EmberScript x = Bench.done(fill(47) + "var j=fun(){yield 1;}();");
        Bench.is("state", x.state(), 1);
        Bench.is("collections", x.collections(), 1);
        Bench.is("freed", x.freed(), 1);
        Bench.is("its number is the generator's", x.numberOf(2), 47);
        Bench.is("kindOfThing", x.kindOfThing(47), 6);
    }

    // ---- section 7: what things directly reach

    /** "An object directly reaches its parent and the values of its slots" */
    static void section7ObjectsReach() {
        EmberScript x = Bench.done("var a=object like object{}{a=object{},b=object{},c=object{},d=object{},e=object{},f=object{},g=object{},h=object{}};");
        Bench.is("the parent", x.reaches(9, 0), true);
        for (int thing = 1; thing <= 8; thing++) {
            Bench.is("a slot", x.reaches(9, thing), true);
            Bench.is("distance of a slot", x.distance(thing), 2);
        }
        Bench.is("itself", x.reaches(9, 9), false);
        Bench.is("not the other way round", x.reaches(0, 9), false);
        EmberScript y = Bench.done("var a=object{n=1,s='slot}; object{}; object{};");
        Bench.is("numbers and words are no things", y.reaches(0, 1) || y.reaches(0, 2), false);
    }

    /** "a function the values of the variables of its scope round it, and of those round that" */
    static void section7FunctionsReach() {
        EmberScript x = Bench.done("var f=fun(a){return fun(b){return fun(c){};};}(object{})(object{});");
        Bench.is("of the scope round it", x.reaches(4, 3), true);
        Bench.is("of the scope round that", x.reaches(4, 1), true);
        Bench.is("of the script's", x.reaches(4, 4), true);
        Bench.is("the outer function is none of them", x.reaches(4, 0), false);
        EmberScript y = Bench.at("fun(a){var b=fun(){}; b=nil; #1;}(object{});");
        Bench.is("of the scope of a frame", y.reaches(2, 1), true);
    }

    /** "a generator that has not ended what its frame holds" */
    static void section7RunningGeneratorsReach() {
        EmberScript x = Bench.at("def f(){#1;} def g(a){object{}==f(); yield 1;} next g(object{});");
        Bench.is("a variable", x.reaches(3, 2), true);
        Bench.is("a left side", x.reaches(3, 4), true);
        Bench.is("the function that it called, by the script's variables", x.reaches(3, 0), true);
        Bench.is("itself", x.reaches(3, 3), false);
        EmberScript y = Bench.at("def f(){#1;} def h(){object{}==f();} def g(){object{}==h(); yield 1;} object{}==next g();");
        Bench.is("its left side", y.reaches(4, 5), true);
        Bench.is("not that of a frame that it called", y.reaches(4, 6), false);
        Bench.is("nor that of what asked it", y.reaches(4, 3), false);
    }

    /** "or, if it has none now, what it would hold where it waits" */
    static void section7WaitingGeneratorsReach() {
        EmberScript x = Bench.at("def g(a){try{throw object{};}finally{for k in a{yield 1;}}} def h(){yield 1;} var i=g(h()); next i; #1;");
        Bench.is("what a finally will throw", x.reaches(3, 4), true);
        Bench.is("the generator of a for", x.reaches(3, 2), true);
        Bench.is("itself, by the script's variable", x.reaches(3, 3), true);
        EmberScript y = Bench.at("var w=weak object{m=fun(){yield 1;}}.m(); next w(); #1;");
        Bench.is("it waits", y.stateOf(2), 1);
        Bench.is("self", y.reaches(2, 1), true);
        Bench.is("its function, by self", y.reaches(2, 0), true);
        Bench.is("not itself", y.reaches(2, 2), false);
    }

    /** "or before it begins" */
    static void section7NewGeneratorsReach() {
        EmberScript x = Bench.done("object{m=fun(a){yield 1;}}.m(object{});");
        Bench.is("an input", x.reaches(3, 2), true);
        Bench.is("self", x.reaches(3, 1), true);
        Bench.is("its function, by self", x.reaches(3, 0), true);
        Bench.is("itself", x.reaches(3, 3), false);
        EmberScript y = Bench.done("fun(a){return fun(){yield 1;};}(object{})();");
        Bench.is("a scope round it", y.reaches(3, 1), true);
        Bench.is("its function", y.reaches(3, 2), false);
    }

    /** "a weak reference, and a generator that has ended, nothing" */
    static void section7WhatReachesNothing() {
        EmberScript x = Bench.done("var w=weak object{};");
        Bench.is("a weak reference", x.reaches(1, 0), false);
        Bench.is("garbage", x.garbage(), 1);
        EmberScript y = Bench.done("def g(a){yield 1;} var i=g(object{}); for k in i{}");
        Bench.is("a generator that came to its end", y.reaches(2, 1), false);
        Bench.is("garbage", y.garbage(), 1);
        EmberScript z = Bench.done("def g(a){throw 1; yield 1;} var i=g(object{}); try{next i;}catch e{}");
        Bench.is("a generator that threw", z.reaches(2, 1), false);
        EmberScript w = Bench.done("def g(a){yield 1; return;} var i=g(object{}); next i; try{next i;}catch e{}");
        Bench.is("a generator that returned", w.reaches(2, 1), false);
        EmberScript v = Bench.done("def g(a){yield 1; yield 2;} var i=g(object{}); next i; next i;");
        Bench.is("a generator that waits at its last yield", v.reaches(2, 1), true);
    }

    /** "A collection frees each thing that is not reached .. Weak references to them refer to nothing then." */
    static void section7Collection() {
        EmberScript x = Bench.done("var a=object{b=object{}}; var u=weak a; var v=weak a.b; a=a.b; var r=object{}; r.r=object{r=r}; r=nil;");
        Bench.is("refersTo ahead", x.refersTo(2), 1);
        Bench.is("collect", x.collect(), 3);
        Bench.is("refersTo what was freed", x.refersTo(2), -1);
        Bench.is("refersTo what was kept", x.refersTo(3), 0);
        Bench.is("a ring is freed", x.isThere(4) || x.isThere(5), false);
        Bench.is("things", x.things(), 3);
        EmberScript y = Bench.done("object{}; var o=object{}; collect; var w=weak o; o=nil; collect; print w;");
        Bench.is("a weak reference with the number 0", y.numberPrinted(0), 0);
        Bench.is("refersTo what was freed", y.refersTo(0), -1);
        EmberScript z = Bench.done(fill(46) + "var w=weak o; o=nil; weak w; collect;");
        Bench.is("a weak reference with the number 46", z.refersTo(46), -1);
    }

    // ---- the rows right behind section 7

    /** "A method that throws an exception changes nothing." */
    static void rowsWhatThrowsChangesNothing() {
        EmberScript x = Bench.at("var o=object{a=1}; for i in 3{try{#print i;}finally{2;}}");
        Bench.feed(x, "print");
        Bench.refusesArgument("trim", x, () -> x.trim(6));
        Bench.refusesArgument("run", x, () -> x.run(0));
        Bench.refusesIndex("interrupt", x, () -> x.interrupt(9));
        Bench.refusesIndex("setNumber", x, () -> x.setNumber(2, 1));
        Bench.refusesIndex("stateIfInterrupted", x, () -> x.stateIfInterrupted(9));
        Bench.refusesArgument("stepsToEnd", x, () -> x.stepsToEnd(0));
        Bench.refusesIndex("kindPrinted", x, () -> x.kindPrinted(0));
        Bench.refusesState("kindThrown", x, () -> x.kindThrown());
        Bench.is("the tape is as it was", x.trim(5), 5);
        Bench.is("state", x.state(), 0);
        Bench.is("run", x.run(1), 1);
        Bench.is("numberPrinted", x.numberPrinted(0), 0);
    }

    /** "If several exceptions apply, the one that is named first is thrown.": of calls with a thing and something else */
    static void rowsTheFirstOfSeveral() {
        EmberScript x = zoo();
        Bench.refusesIndex("foundIn: no word, no object", x, () -> x.foundIn(1, 9));
        Bench.refusesIndex("foundIn: no thing, no word", x, () -> x.foundIn(5, 9));
        Bench.refusesArgument("foundIn: no object", x, () -> x.foundIn(1, 8));
        Bench.refusesIndex("isLike: no object, no other", x, () -> x.isLike(1, 5));
        Bench.refusesIndex("isLike: no thing, no object", x, () -> x.isLike(5, 1));
        Bench.refusesArgument("isLike: no object", x, () -> x.isLike(1, 0));
        Bench.refusesArgument("isLike: the other no object", x, () -> x.isLike(0, 1));
        Bench.refusesArgument("wordIn: no object, so without such a slot", x, () -> x.wordIn(1, 5));
        Bench.refusesArgument("kindIn: no object, so without such a slot", x, () -> x.kindIn(3, -1));
        Bench.refusesArgument("numberIn: no object, so without such a slot", x, () -> x.numberIn(4, 0));
        Bench.refusesArgument("run: ended, and no number of steps", x, () -> x.run(0));
        Bench.refusesIndex("interrupt: ended, and no word", x, () -> x.interrupt(9));
    }

    // ---- promises 32 to 44

    /** "Returns how many things there are.": 0 to 48 */
    static void promise32Things() {
        EmberScript x = Bench.with("object{}; object{}; for i in 46{object{};} object{};");
        Bench.is("none", x.things(), 0);
        x.run(1);
        Bench.is("one", x.things(), 1);
        x.run(2);
        Bench.is("two", x.things(), 2);
        x.run(1 + 3 * 46);
        Bench.is("48", x.things(), 48);
        x.run(1);
        Bench.is("48 were freed", x.things(), 1);
    }

    /** "Throws IndexOutOfBoundsException if it is not 0 to 47" */
    static void promise33Not0To47() {
        EmberScript x = Bench.done(fill(48));
        Bench.is("isThere(0)", x.isThere(0), true);
        Bench.is("isThere(47)", x.isThere(47), true);
        Bench.refusesIndex("isThere(48)", x, () -> x.isThere(48));
        Bench.refusesIndex("isThere(-1)", x, () -> x.isThere(-1));
        EmberScript y = zoo();
        Bench.is("isThere(4)", y.isThere(4), true);
        Bench.is("isThere(5)", y.isThere(5), false);
        Bench.is("isThere(47)", y.isThere(47), false);
        Bench.refusesIndex("isThere(48)", y, () -> y.isThere(48));
        Bench.refusesIndex("isThere of the least number", y, () -> y.isThere(Integer.MIN_VALUE));
        Bench.refusesIndex("isThere of the greatest number", y, () -> y.isThere(Integer.MAX_VALUE));
    }

    /** "Returns its kind, 4 to 7."; "Throws IndexOutOfBoundsException if there is no such thing" */
    static void promise34NoSuchThing() {
        EmberScript x = zoo();
        Bench.is("kindOfThing(0)", x.kindOfThing(0), 4);
        Bench.is("kindOfThing(1)", x.kindOfThing(1), 5);
        Bench.is("kindOfThing(3)", x.kindOfThing(3), 6);
        Bench.is("kindOfThing(4)", x.kindOfThing(4), 7);
        for (int thing : NO_THINGS) {
            Bench.refusesIndex("kindOfThing " + thing, x, () -> x.kindOfThing(thing));
        }
        EmberScript y = Bench.done("object{}; var a=object{}; collect;");
        Bench.is("kindOfThing of what was kept", y.kindOfThing(1), 4);
        Bench.refusesIndex("kindOfThing of what was freed", y, () -> y.kindOfThing(0));
        EmberScript z = Bench.done(fill(48));
        Bench.is("kindOfThing(47)", z.kindOfThing(47), 4);
        Bench.refusesIndex("kindOfThing(48)", z, () -> z.kindOfThing(48));
    }

    /** "Throws IndexOutOfBoundsException if there is no such thing"; "IllegalArgumentException if it is neither" */
    static void promise35FunctionOf() {
        EmberScript x = zoo();
        Bench.is("of a function", x.functionOf(1), 0);
        Bench.is("of another one", x.functionOf(2), 1);
        Bench.is("of a generator", x.functionOf(3), 1);
        Bench.refusesArgument("of an object", x, () -> x.functionOf(0));
        Bench.refusesArgument("of a weak reference", x, () -> x.functionOf(4));
        for (int thing : NO_THINGS) {
            Bench.refusesIndex("functionOf " + thing, x, () -> x.functionOf(thing));
        }
    }

    /** "Throws IndexOutOfBoundsException if there is no such thing"; "IllegalArgumentException if it is no object" */
    static void promise36Slots() {
        EmberScript x = zoo();
        Bench.is("slots", x.slots(0), 1);
        for (int thing = 1; thing <= 4; thing++) {
            int other = thing;
            Bench.refusesArgument("slots of no object", x, () -> x.slots(other));
        }
        for (int thing : NO_THINGS) {
            Bench.refusesIndex("slots " + thing, x, () -> x.slots(thing));
        }
        EmberScript y = Bench.done("object{}; object{a=1,b=2,c=3,d=4,e=5,f=6,g=7,h=8}; object like object{a=1}{};");
        Bench.is("none", y.slots(0), 0);
        Bench.is("8", y.slots(1), 8);
        Bench.is("those of a parent are not counted", y.slots(3), 0);
        EmberScript z = Bench.done("object like object{a=1}{b=1,c=1}; collect; var o=object{}; var p=object{}; o.d=1;");
        Bench.is("one with the number of another that was freed", z.slots(1), 0);
        Bench.is("and another one", z.slots(0), 1);
        Bench.is("without that one's parent", z.parentOf(1), -1);
    }

    private static EmberScript eight() {
        return Bench.done("object{}; object{a=1,b=true,c='full,d=nil,e=5,f=6,g=7,h=object{}};");
    }

    /** "no such thing, or it is an object without such a slot": wordIn */
    static void promise37WithoutSuchASlot() {
        EmberScript x = eight();
        Bench.is("wordIn(2, 0)", x.wordIn(2, 0), 8);
        Bench.is("wordIn(2, 7)", x.wordIn(2, 7), 15);
        Bench.refusesIndex("wordIn(2, 8)", x, () -> x.wordIn(2, 8));
        Bench.refusesIndex("wordIn(2, -1)", x, () -> x.wordIn(2, -1));
        Bench.refusesIndex("wordIn(0, 0)", x, () -> x.wordIn(0, 0));
        Bench.refusesIndex("wordIn(3, 0)", x, () -> x.wordIn(3, 0));
        Bench.refusesIndex("wordIn(-1, 0)", x, () -> x.wordIn(-1, 0));
        EmberScript y = zoo();
        Bench.is("wordIn(0, 0)", y.wordIn(0, 0), 8);
        Bench.refusesIndex("wordIn(0, 1)", y, () -> y.wordIn(0, 1));
        for (int thing = 1; thing <= 4; thing++) {
            int other = thing;
            Bench.refusesArgument("wordIn no object", y, () -> y.wordIn(other, 0));
        }
    }

    /** "no such thing, or it is an object without such a slot": kindIn */
    static void promise38WithoutSuchASlot() {
        EmberScript x = eight();
        int[] due = {2, 1, 3, 0, 2, 2, 2, 4};
        for (int slot = 0; slot < 8; slot++) {
            Bench.is("kindIn " + slot, x.kindIn(2, slot), due[slot]);
        }
        Bench.refusesIndex("kindIn(2, 8)", x, () -> x.kindIn(2, 8));
        Bench.refusesIndex("kindIn(2, -1)", x, () -> x.kindIn(2, -1));
        Bench.refusesIndex("kindIn(0, 0)", x, () -> x.kindIn(0, 0));
        Bench.refusesIndex("kindIn(3, 0)", x, () -> x.kindIn(3, 0));
        EmberScript y = zoo();
        Bench.refusesIndex("kindIn(0, 1)", y, () -> y.kindIn(0, 1));
        for (int thing = 1; thing <= 4; thing++) {
            int other = thing;
            Bench.refusesArgument("kindIn no object", y, () -> y.kindIn(other, 0));
        }
    }

    /** "no such thing, or it is an object without such a slot": numberIn */
    static void promise39WithoutSuchASlot() {
        EmberScript x = eight();
        int[] due = {1, 1, 5, 0, 5, 6, 7, 1};
        for (int slot = 0; slot < 8; slot++) {
            Bench.is("numberIn " + slot, x.numberIn(2, slot), due[slot]);
        }
        Bench.refusesIndex("numberIn(2, 8)", x, () -> x.numberIn(2, 8));
        Bench.refusesIndex("numberIn(2, -1)", x, () -> x.numberIn(2, -1));
        Bench.refusesIndex("numberIn(0, 0)", x, () -> x.numberIn(0, 0));
        Bench.refusesIndex("numberIn(3, 0)", x, () -> x.numberIn(3, 0));
        EmberScript y = zoo();
        Bench.refusesIndex("numberIn(0, 1)", y, () -> y.numberIn(0, 1));
        for (int thing = 1; thing <= 4; thing++) {
            int other = thing;
            Bench.refusesArgument("numberIn no object", y, () -> y.numberIn(other, 0));
        }
    }

    /** "-1 without one" */
    static void promise40ParentOf() {
        EmberScript x = Bench.done("var a=object{}; var b=object like a{};");
        Bench.is("without one", x.parentOf(0), -1);
        Bench.is("with the thing 0", x.parentOf(1), 0);
        Bench.refusesIndex("parentOf(2)", x, () -> x.parentOf(2));
        Bench.refusesIndex("parentOf(-1)", x, () -> x.parentOf(-1));
        EmberScript y = zoo();
        for (int thing = 1; thing <= 4; thing++) {
            int other = thing;
            Bench.refusesArgument("parentOf no object", y, () -> y.parentOf(other));
        }
        for (int thing : NO_THINGS) {
            Bench.refusesIndex("parentOf " + thing, y, () -> y.parentOf(thing));
        }
    }

    /** "itself, its parent, or one further on; -1 if none has it" */
    static void promise41FoundIn() {
        EmberScript x = Bench.done("var a=object{p=1,q=1}; var b=object like a{q=2}; var c=object like b{r=3}; 's;");
        Bench.is("in itself", x.foundIn(2, 10), 2);
        Bench.is("in its parent", x.foundIn(2, 9), 1);
        Bench.is("further on", x.foundIn(2, 8), 0);
        Bench.is("not in one behind it", x.foundIn(0, 10), -1);
        Bench.is("in none", x.foundIn(2, 11), -1);
        Bench.is("in none, the word 0", x.foundIn(2, 0), -1);
        Bench.is("in 48 objects", Bench.done("var o=object{z=5}; for i in 47{o=object like o{};}").foundIn(47, 8), 0);
        Bench.is("in none of 48 objects", Bench.done("var o=object{}; for i in 47{o=object like o{};} 'z;").foundIn(47, 8), -1);
    }

    /** "Throws IndexOutOfBoundsException if there is no such thing or word"; "IllegalArgumentException if it is no object" */
    static void promise41NoSuchThingOrWord() {
        EmberScript x = zoo();
        Bench.is("words", x.words(), 9);
        Bench.is("foundIn(0, 8)", x.foundIn(0, 8), 0);
        Bench.refusesIndex("foundIn(0, 9)", x, () -> x.foundIn(0, 9));
        Bench.refusesIndex("foundIn(0, -1)", x, () -> x.foundIn(0, -1));
        for (int thing : NO_THINGS) {
            Bench.refusesIndex("foundIn " + thing, x, () -> x.foundIn(thing, 8));
        }
        for (int thing = 1; thing <= 4; thing++) {
            int other = thing;
            Bench.refusesArgument("foundIn no object", x, () -> x.foundIn(other, 8));
        }
    }

    /** "whether the other one is its parent, or the parent of that, and so on": not itself */
    static void promise42IsLike() {
        EmberScript x = Bench.done("var a=object{}; var b=object like a{}; var c=object like b{}; var d=object like a{};");
        Bench.is("its parent", x.isLike(1, 0), true);
        Bench.is("the parent of that", x.isLike(2, 0), true);
        Bench.is("itself", x.isLike(1, 1), false);
        Bench.is("itself, without a parent", x.isLike(0, 0), false);
        Bench.is("the other way round", x.isLike(0, 1), false);
        Bench.is("one with the same parent", x.isLike(1, 3), false);
        EmberScript y = Bench.done("var o=object{}; for i in 47{o=object like o{};}");
        Bench.is("the last of 48", y.isLike(47, 0), true);
        Bench.is("the one ahead", y.isLike(47, 46), true);
        Bench.is("not itself", y.isLike(47, 47), false);
    }

    /** "Throws IndexOutOfBoundsException if there is no such thing or other"; "IllegalArgumentException if one of both is no object" */
    static void promise42NoSuchThingOrOther() {
        EmberScript x = zoo();
        for (int thing : NO_THINGS) {
            Bench.refusesIndex("isLike " + thing, x, () -> x.isLike(thing, 0));
            Bench.refusesIndex("isLike 0 " + thing, x, () -> x.isLike(0, thing));
        }
        for (int thing = 1; thing <= 4; thing++) {
            int other = thing;
            Bench.refusesArgument("isLike no object", x, () -> x.isLike(other, 0));
            Bench.refusesArgument("isLike 0, no object", x, () -> x.isLike(0, other));
            Bench.refusesArgument("isLike no objects", x, () -> x.isLike(other, other));
        }
    }

    /** "0 if it has not begun, 1 if it waits, 2 if it is running, 3 if it has ended" */
    static void promise43StateOf() {
        EmberScript x = Bench.at("def g(){yield 1; 2;} var i=g(); #next i; for k in i{} 3;");
        Bench.is("it has not begun", x.stateOf(1), 0);
        x.run(1);
        Bench.is("it is running", x.stateOf(1), 2);
        x.run(1);
        Bench.is("it waits", x.stateOf(1), 1);
        x.run(1);
        Bench.is("it is running again", x.stateOf(1), 2);
        x.run(1);
        Bench.is("it has ended", x.stateOf(1), 3);
        EmberScript y = Bench.at("def f(){#1;} def g(){f(); yield 1;} next g();");
        Bench.is("its frame waits for a newer one", y.stateOf(2), 2);
        y.interrupt(0);
        Bench.is("it was ended by what was thrown", y.stateOf(2), 3);
        EmberScript z = Bench.done("object{}; var g=fun(){if nil{yield 1;}}; collect; var i=g(); for k in i{}");
        Bench.is("one with the number 0 that has ended", z.stateOf(0), 3);
        EmberScript w = Bench.done("object{}; var g=fun(){throw 1; yield 1;}; collect; var i=g(); try{next i;}catch e{}");
        Bench.is("one with the number 0 that threw", w.stateOf(0), 3);
        EmberScript v = Bench.done("def g(){yield 1;} for k in g(){} collect; var i=g();");
        Bench.is("the number of one that was freed", v.numberOf(2), 1);
        Bench.is("it has not begun", v.stateOf(1), 0);
    }

    /** "Throws IndexOutOfBoundsException if there is no such thing"; "IllegalArgumentException if it is no generator" */
    static void promise43NoGenerator() {
        EmberScript x = zoo();
        Bench.is("stateOf(3)", x.stateOf(3), 0);
        for (int thing : new int[] {0, 1, 2, 4}) {
            Bench.refusesArgument("stateOf no generator", x, () -> x.stateOf(thing));
        }
        for (int thing : NO_THINGS) {
            Bench.refusesIndex("stateOf " + thing, x, () -> x.stateOf(thing));
        }
    }

    /** "-1 if that was freed" */
    static void promise44RefersTo() {
        EmberScript x = Bench.done("var o=object{}; var w=weak o; o=nil;");
        Bench.is("the thing 0", x.refersTo(1), 0);
        Bench.is("collect", x.collect(), 1);
        Bench.is("it was freed", x.refersTo(1), -1);
        EmberScript y = Bench.done("var o=object{}; var w=weak o; o=nil; collect; o=object{};");
        Bench.is("another thing has its number", y.numberOf(0), 0);
        Bench.is("it was freed", y.refersTo(1), -1);
        EmberScript z = zoo();
        Bench.is("refersTo(4)", z.refersTo(4), 0);
        for (int thing = 0; thing <= 3; thing++) {
            int other = thing;
            Bench.refusesArgument("refersTo no weak reference", z, () -> z.refersTo(other));
        }
        for (int thing : NO_THINGS) {
            Bench.refusesIndex("refersTo " + thing, z, () -> z.refersTo(thing));
        }
    }

    // ---- promises 45 to 50

    /** "Throws IndexOutOfBoundsException if there is no such thing": isReached */
    static void promise45NoSuchThing() {
        EmberScript x = zoo();
        for (int thing = 0; thing <= 4; thing++) {
            Bench.is("isReached", x.isReached(thing), true);
        }
        for (int thing : NO_THINGS) {
            Bench.refusesIndex("isReached " + thing, x, () -> x.isReached(thing));
        }
        EmberScript y = Bench.done("object{}; var a=object{a=object{}};");
        Bench.is("what nothing reaches", y.isReached(0), false);
        Bench.is("what is directly reached", y.isReached(2), true);
        Bench.is("what that reaches", y.isReached(1), true);
    }

    /** "how many things a collection would free now": none, some, all */
    static void promise46Garbage() {
        Bench.is("without things", new EmberScript().garbage(), 0);
        Bench.is("none", zoo().garbage(), 0);
        EmberScript x = Bench.done("for i in 48{object{};}");
        Bench.is("all of 48", x.garbage(), 48);
        Bench.is("none of 48", Bench.done(fill(48)).garbage(), 0);
        EmberScript y = Bench.done("var a=object{}; object{b=object{}};");
        Bench.is("two of three", y.garbage(), 2);
        Bench.is("collect", y.collect(), 2);
        Bench.is("behind it", y.garbage(), 0);
    }

    /** "besides those that it would free anyway .. (itself counted); 0 if it would be freed anyway" */
    static void promise47Retained() {
        EmberScript x = Bench.done("var s=object{}; var a=object{s=s,b=object{c=object{}}}; object{d=object{}};");
        Bench.is("what another reaches, too", x.retained(0), 1);
        Bench.is("the last of a chain", x.retained(1), 1);
        Bench.is("itself and what it alone reaches", x.retained(2), 2);
        Bench.is("all but what is reached otherwise", x.retained(3), 3);
        Bench.is("what would be freed anyway", x.retained(4), 0);
        Bench.is("what reaches that", x.retained(5), 0);
        Bench.is("all of 48", Bench.done(fill(48)).retained(47), 48);
        Bench.is("one of 48", Bench.done(fill(48)).retained(0), 1);
    }

    /** "if nothing reached this thing directly any more": neither the script nor another thing, nor a frame */
    static void promise47NothingReachesItAnyMore() {
        EmberScript x = Bench.done("var a=object{}; var b=object{a=a}; a.b=b;");
        Bench.is("in a ring that is reached twice", x.retained(0), 1);
        Bench.is("the other one", x.retained(1), 1);
        x.setNumber(0, 0);
        Bench.is("behind the other one", x.retained(0), 1);
        Bench.is("ahead of the other one", x.retained(1), 2);
        // A generator that is running is held by its frame, but what that holds is held without it, too.
        EmberScript y = Bench.at("def g(a){#yield 1;} next g(object{});");
        Bench.is("a running generator", y.retained(2), 1);
        Bench.is("what its frame holds", y.retained(1), 1);
        y.run(1);
        Bench.is("as it waits it would be freed anyway", y.retained(2), 0);
        EmberScript z = Bench.done("throw object{a=object{}};");
        Bench.is("what was thrown", z.retained(1), 2);
        Bench.is("what it reaches", z.retained(0), 1);
    }

    /** "Throws IndexOutOfBoundsException if there is no such thing": retained */
    static void promise47NoSuchThing() {
        EmberScript x = zoo();
        for (int thing : NO_THINGS) {
            Bench.refusesIndex("retained " + thing, x, () -> x.retained(thing));
        }
    }

    /** "1 if it is directly reached by the script; otherwise 1 more than the least distance ..; -1 if it is not reached" */
    static void promise48Distance() {
        EmberScript x = Bench.done(fill(48));
        Bench.is("directly reached", x.distance(47), 1);
        Bench.is("the next", x.distance(46), 2);
        Bench.is("the last", x.distance(0), 48);
        x.setNumber(0, 0);
        Bench.is("not reached", x.distance(47), -1);
        EmberScript y = Bench.done("var a=object{}; var b=object{x=object{x=a,y=object{}}}; b.z=a; object{x=object{}};");
        Bench.is("directly and otherwise", y.distance(0), 1);
        Bench.is("distance 2", y.distance(2), 2);
        Bench.is("distance 3", y.distance(1), 3);
        Bench.is("by what is not reached", y.distance(4), -1);
        EmberScript z = Bench.done("var b=object{x=object{x=object{}}}; b.z=b.x.x;");
        Bench.is("the least of two ways", z.distance(0), 2);
    }

    /** "Throws IndexOutOfBoundsException if there is no such thing": distance */
    static void promise48NoSuchThing() {
        EmberScript x = zoo();
        for (int thing : NO_THINGS) {
            Bench.refusesIndex("distance " + thing, x, () -> x.distance(thing));
        }
    }

    /** "directly or through things that it reaches": itself only round a ring */
    static void promise49Reaches() {
        EmberScript x = Bench.done("var a=object{b=object{c=object{}}}; var r=object{}; r.r=r; object{a=a};");
        Bench.is("directly", x.reaches(2, 1), true);
        Bench.is("through another", x.reaches(2, 0), true);
        Bench.is("the other way round", x.reaches(0, 2), false);
        Bench.is("itself", x.reaches(2, 2), false);
        Bench.is("itself, round a ring", x.reaches(3, 3), true);
        Bench.is("from what is not reached", x.reaches(4, 0), true);
        Bench.is("over 48 things", Bench.done(fill(48)).reaches(47, 0), true);
        EmberScript y = Bench.done(fill(48) + "o.b=o;");
        Bench.is("over 48 things, the first of which reaches itself", y.reaches(47, 0), true);
        EmberScript z = Bench.done("var o=object{}; var p=o; for i in 47{o=object{a=o};} p.a=o;");
        Bench.is("round a ring of 48", z.reaches(20, 20), true);
        Bench.is("in a ring of 48", z.reaches(20, 21), true);
    }

    /** "Throws IndexOutOfBoundsException if there is no such thing or other" */
    static void promise49NoSuchThingOrOther() {
        EmberScript x = zoo();
        for (int thing : NO_THINGS) {
            Bench.refusesIndex("reaches " + thing, x, () -> x.reaches(thing, 0));
            Bench.refusesIndex("reaches 0 " + thing, x, () -> x.reaches(0, thing));
        }
    }

    /** "0 without things" */
    static void promise50Share() {
        Bench.isShare("without things", new EmberScript().share(), 0.0);
        Bench.isShare("of one that is not kept", Bench.done("object{};").share(), 0.0);
        Bench.isShare("of one that is kept", Bench.done("var a=object{};").share(), 1.0);
        Bench.isShare("one of two", Bench.done("var a=object{}; object{};").share(), 0.5);
        Bench.isShare("one of three", Bench.done("var a=object{}; object{}; object{};").share(), 1.0 / 3.0);
        Bench.isShare("47 of 48", Bench.done(fill(47) + "object{};").share(), 47.0 / 48.0);
        Bench.isShare("48 of 48", Bench.done(fill(48)).share(), 1.0);
    }

    // ---- promises 51 to 56

    private interface Asked {
        int answer(EmberScript x, int steps);
    }

    /** "Throws IllegalArgumentException if .. is not 1 to 200": as the script can go on, and as it can't */
    private static void notOneTo200(String what, Asked call) {
        EmberScript[] all = {new EmberScript(), Bench.with("while true{}"), Bench.done("1;"), Bench.done("throw 1;")};
        for (EmberScript x : all) {
            for (int steps : new int[] {0, -1, 201, Integer.MIN_VALUE, Integer.MAX_VALUE}) {
                Bench.refusesArgument(what + steps, x, () -> call.answer(x, steps));
            }
            call.answer(x, 1);
            call.answer(x, 200);
        }
    }

    /** "Throws IllegalArgumentException if most is not 1 to 200" */
    static void promise51NotOneTo200() {
        notOneTo200("stepsToEnd ", (x, steps) -> x.stepsToEnd(steps));
    }

    /** "if the script would have ended or failed behind it; -1 if it would not" */
    static void promise51StepsToEnd() {
        EmberScript x = Bench.with("1; 2; 3;");
        Bench.is("3 of 3", x.stepsToEnd(3), 3);
        Bench.is("4 of 3", x.stepsToEnd(4), 3);
        Bench.is("2 of 3", x.stepsToEnd(2), -1);
        EmberScript y = Bench.with("1; throw 2; 3;");
        Bench.is("2 to a failure", y.stepsToEnd(2), 2);
        Bench.is("1 to a failure", y.stepsToEnd(1), -1);
        EmberScript z = Bench.with("1; object{a=object{}};");
        Bench.is("more than most", z.stepsToEnd(2), 4);
        Bench.is("1 of 4", z.stepsToEnd(1), -1);
        Bench.is("200 of 200", Bench.with("for i in 199{}").stepsToEnd(200), 200);
        Bench.is("200 of 201", Bench.with("for i in 200{}").stepsToEnd(200), -1);
    }

    /** "0 if it has ended or failed" */
    static void promise51HasEndedOrFailed() {
        Bench.is("ended", Bench.done("1;").stepsToEnd(1), 0);
        Bench.is("failed", Bench.done("throw 1;").stepsToEnd(200), 0);
        Bench.is("a new object", new EmberScript().stepsToEnd(1), 0);
    }

    /** "Throws IllegalArgumentException if steps is not 1 to 200" */
    static void promise52NotOneTo200() {
        notOneTo200("printedIn ", (x, steps) -> x.printedIn(steps));
    }

    /** "how many values run(steps) would print now; 0 if the script has ended or failed" */
    static void promise52PrintedIn() {
        EmberScript x = Bench.with("1; print 2; print 3; 4;");
        Bench.is("in 1", x.printedIn(1), 0);
        Bench.is("in 2", x.printedIn(2), 1);
        Bench.is("in 3", x.printedIn(3), 2);
        Bench.is("in 200", x.printedIn(200), 2);
        x.run(2);
        Bench.is("those that were printed are not counted", x.printedIn(200), 1);
        Bench.is("ended", Bench.done("print 1;").printedIn(1), 0);
        Bench.is("failed", Bench.done("print 1; throw 1;").printedIn(200), 0);
        Bench.is("more than are kept", Bench.with("for i in 99{print i;}").printedIn(200), 99);
    }

    /** "Throws IllegalArgumentException if steps is not 1 to 200" */
    static void promise53NotOneTo200() {
        notOneTo200("thingsIn ", (x, steps) -> x.thingsIn(steps));
    }

    /** "how many things there would be behind run(steps) now; things() if the script has ended or failed" */
    static void promise53ThingsIn() {
        EmberScript x = Bench.with("object{}; object{}; collect; object{};");
        Bench.is("in 1", x.thingsIn(1), 1);
        Bench.is("in 2", x.thingsIn(2), 1);
        Bench.is("in 3", x.thingsIn(3), 2);
        Bench.is("in 4", x.thingsIn(4), 2);
        Bench.is("in 5", x.thingsIn(5), 0);
        Bench.is("in 6", x.thingsIn(6), 1);
        Bench.is("things", x.things(), 0);
        Bench.is("ended", Bench.done("object{};").thingsIn(1), 1);
        Bench.is("failed", Bench.done("object{}; object{}; throw 1;").thingsIn(200), 2);
        EmberScript y = Bench.with("for i in 48{object{};} object{};");
        y.run(10);
        Bench.is("48", y.thingsIn(135), 48);
        Bench.is("behind a collection", y.thingsIn(136), 1);
    }

    /** "till a value is printed, that one counted" */
    static void promise54RunsToPrint() {
        Bench.is("the first", Bench.with("print 1;").runsToPrint(), 1);
        Bench.is("the second", Bench.with("1; print 1;").runsToPrint(), 2);
        Bench.is("runs, not steps", Bench.with("object{a=object{}}; print 1;").runsToPrint(), 2);
        Bench.is("as it fails behind it", Bench.with("print 1; throw 2;").runsToPrint(), 1);
        EmberScript x = Bench.with("print 1; 2; print 3;");
        x.run(1);
        Bench.is("the next one", x.runsToPrint(), 2);
        EmberScript y = Bench.with("for i in 50{print i;}");
        y.run(96);
        Bench.is("printed", y.printed(), 48);
        Bench.is("place", y.place(), 0);
        Bench.is("with more than are kept", y.runsToPrint(), 2);
    }

    /** "-1 if the script has ended or failed, or does so ahead of that" */
    static void promise54EndsAheadOfThat() {
        Bench.is("ended", Bench.done("print 1;").runsToPrint(), -1);
        Bench.is("failed", Bench.done("print 1; throw 1;").runsToPrint(), -1);
        Bench.is("a new object", new EmberScript().runsToPrint(), -1);
        Bench.is("ends ahead", Bench.with("1; 2;").runsToPrint(), -1);
        Bench.is("fails ahead", Bench.with("throw 1; print 2;").runsToPrint(), -1);
    }

    /** "or 200 steps or more are counted by those that print nothing" */
    static void promise54StepsThatPrintNothing() {
        // The for, and behind each round: 199 and 200 steps, in as many runs.
        Bench.is("199 steps", Bench.with("for i in 198{} print 1;").runsToPrint(), 200);
        Bench.is("200 steps", Bench.with("for i in 199{} print 1;").runsToPrint(), -1);
        // In a round 2 steps in a run, and 1 behind it: 1 + 3 * 66 steps in 1 + 2 * 66 runs.
        Bench.is("199 steps in 133 runs", Bench.with("for i in 66{object{};} print 1;").runsToPrint(), 134);
        Bench.is("200 steps in 134 runs", Bench.with("1; for i in 66{object{};} print 1;").runsToPrint(), -1);
        Bench.is("201 steps, 2 of them in the last run", Bench.with("object{}; for i in 198{} print 1;").runsToPrint(), -1);
        // The steps of the run that prints are not among them.
        Bench.is("199 steps, and a print of 3", Bench.with("for i in 198{} print object{a=object{}};").runsToPrint(), 200);
    }

    /** "Throws IndexOutOfBoundsException if there is no such word" */
    static void promise55NoSuchWord() {
        for (EmberScript x : new EmberScript[] {new EmberScript(), Bench.with("1;"), Bench.done("1;"), Bench.done("throw 1;")}) {
            Bench.refusesIndex("stateIfInterrupted(8)", x, () -> x.stateIfInterrupted(8));
            Bench.refusesIndex("stateIfInterrupted(-1)", x, () -> x.stateIfInterrupted(-1));
            Bench.is("stateIfInterrupted(7)", x.stateIfInterrupted(7), x.state() == 0 ? 2 : -1);
            Bench.is("stateIfInterrupted(0)", x.stateIfInterrupted(0), x.state() == 0 ? 2 : -1);
        }
        EmberScript y = Bench.with("'a;");
        Bench.is("stateIfInterrupted(8)", y.stateIfInterrupted(8), 2);
        Bench.refusesIndex("stateIfInterrupted(9)", y, () -> y.stateIfInterrupted(9));
    }

    /** "-1 if that would be refused as the script has ended or failed"; otherwise "state() behind it" */
    static void promise55StateIfInterrupted() {
        Bench.is("ended", Bench.done("1;").stateIfInterrupted(0), -1);
        Bench.is("failed", Bench.done("throw 1;").stateIfInterrupted(0), -1);
        Bench.is("a new object", new EmberScript().stateIfInterrupted(0), -1);
        Bench.is("it would go on", Bench.at("try{#1;}catch e{2;}").stateIfInterrupted(0), 0);
        Bench.is("it would end", Bench.at("try{#1;}catch e{}").stateIfInterrupted(0), 1);
        Bench.is("it would fail", Bench.at("#1;").stateIfInterrupted(0), 2);
    }

    /** "what would be (nothing is changed)" */
    static void promise55NothingIsChanged() {
        EmberScript x = Bench.at("def g(){try{#yield object{};}catch e{print e;}} for i in g(){print i;} collect;");
        Bench.unchanged("what would be", x, () -> {
            x.stepsToEnd(200);
            x.printedIn(200);
            x.thingsIn(200);
            x.runsToPrint();
            x.stateIfInterrupted(0);
        });
        Bench.is("run", x.run(200), 6);
        Bench.is("state", x.state(), 1);
    }

    private static long sum(int[] row) {
        long d = 2411;
        for (int v : row) {
            d = d * 31 + v;
        }
        return d;
    }

    /** "A number d starts with 2411; then d becomes d * 31 + v .. for each v in this order" */
    static void promise56Digest() {
        EmberScript x = Bench.at("var a=object{s=5}; def f(){try{for k in 1{#1;}}catch e{}} print true; f();");
        // state, steps, frames, place, function, loops, guarded, collections, freed, functions, words, printed, things, garbage,
        // the variables, the print, and the things with number, kind, reached, distance, retained, and their own.
        Bench.is("digest", x.digest(), sum(new int[] {0, 9, 1, 42, 0, 1, 1, 0, 0, 1, 9, 1, 2, 0,
            4, 0, 5, 1, 1, 1,
            0, 4, 1, 1, 1, -1, 1, 8, 2, 5, 1, 5, 1, 1, 1, 0}));
        EmberScript y = Bench.done("def g(){yield 1;} weak g(); throw 'full;");
        Bench.is("digest of a failure", y.digest(), sum(new int[] {2, 6, 0, -1, -1, 0, 0, 0, 0, 1, 8, 0, 3, 2,
            5, 0, 3, 5,
            0, 5, 1, 1, 1, 0, 1, 6, 0, -1, 0, 0, 0, 2, 7, 0, -1, 0, 1}));
    }

    /** "for each of the latest values that were printed, at most 40, from the latest one on" */
    static void promise56DigestOf40Prints() {
        for (int count : new int[] {0, 1, 39, 40, 41, 80}) {
            EmberScript x = Bench.done("for i in " + count + "{print i;}");
            List<Integer> row = new ArrayList<>(List.of(1, 1 + 2 * count, 0, -1, -1, 0, 0, 0, 0, 0));
            row.addAll(List.of(8, count, 0, 0));
            row.addAll(count == 0 ? List.of(0, 0) : List.of(2, count - 1));
            for (int n = count - 1; n >= 0 && n >= count - 40; n--) {
                row.addAll(List.of(2, n));
            }
            long d = 2411;
            for (int v : row) {
                d = d * 31 + v;
            }
            Bench.is("digest of " + count + " prints", x.digest(), d);
        }
    }
}
