/**
 * Sections 2 to 5 of the document, values, functions, objects and statements: each sentence that names a boundary has a
 * test of its own, named after where it stands, which quotes it.
 */
public final class LanguageEdges {
    /** Prints its input, and gives it back. */
    private static final String TELL = "def f(x){print x; return x;} ";
    private static final String[] ARITHMETIC = {"+", "-", "*", "/", "%"};
    private static final String[] COMPARISONS = {"<", ">", "<=", ">="};
    /** Values that are no numbers, none of which needs a thing but the last. */
    private static final String[] NO_NUMBERS = {"nil", "true", "false", "'type", "object{}"};
    private static final String MOST = "var m = 65536 * 32767 + 65535; ";
    private static final String LEAST = "var m = 65536 * -32768; ";

    public static void main(String[] args) {
        Bench.runAll(LanguageEdges.class);
    }

    /** Makes this many things, each of which is reached by the variable o; i is a variable, too. */
    private static String fill(int count) {
        return "var o = nil; for i in " + count + " {o = object {a = o};} ";
    }

    // ---- section 2: values

    /** "A value has a kind and a number: 0 nil (with 0), 1 a truth (false 0, true 1), .." */
    static void section2KindsAndNumbers() {
        EmberScript x = Bench.done("var a=nil; var b=false; var c=true; var d=-5; var e='full; var f=object{}; def g(){yield 1;}"
                + "var h=g(); var i=weak f; var j='other;");
        int[] kinds = {0, 1, 1, 2, 3, 4, 5, 6, 7, 3};
        int[] numbers = {0, 0, 1, -5, 5, 0, 1, 2, 3, 8};
        for (int n = 0; n < kinds.length; n++) {
            Bench.is("kindOf " + n, x.kindOf(n), kinds[n]);
            Bench.is("numberOf " + n, x.numberOf(n), numbers[n]);
        }
    }

    /** "Two values are equal if both are." */
    static void section2EqualIfBothAre() {
        String[] values = {"nil", "false", "true", "0", "1", "-1", "'type", "'zero", "object{}", "'full", "5"};
        for (int a = 0; a < values.length; a++) {
            for (int b = 0; b < values.length; b++) {
                boolean same = a == b && !values[a].equals("object{}");
                Bench.prints("print " + values[a] + "==" + values[b] + ";print " + values[a] + "!=" + values[b] + ";",
                        same + " " + !same);
            }
        }
        Bench.prints("var a=object{}; var b=a; print a==b; print a!=b; print a==0; print a==nil; print a==object{};",
                "true false false false false");
        Bench.prints(MOST + "var n=-m-1; print m==n; print m==n-1; print n==-n;", "false true true");
    }

    /** "All but nil and false count as true." */
    static void section2WhatCountsAsTrue() {
        Bench.prints("print not nil; print not false;", "true true");
        Bench.prints("print not true; print not 0; print not 1; print not -1; print not 'type;", "false false false false false");
        Bench.prints("print not object{}; print not fun(){}; print not fun(){yield 1;}(); print not weak object{};",
                "false false false false");
        for (String value : new String[] {"true", "0", "'type", "object{}"}) {
            Bench.prints("if " + value + "{print 1;}else{print 2;} while " + value + "{print 3; break;}", "1 3");
        }
        for (String value : new String[] {"nil", "false"}) {
            Bench.prints("if " + value + "{print 1;}else{print 2;} while " + value + "{print 3; break;}", "2");
        }
    }

    /** "sums, differences and products of the language wrap around in 32 bits": sums */
    static void section2SumsWrapAround() {
        Bench.prints(MOST + "print m; print m + 0; print m - 1 + 1; print m + 1; print m + m;",
                "2147483647 2147483647 2147483647 -2147483648 -2");
        Bench.prints(LEAST + "print m; print m + 1; print m + -1; print m + m;", "-2147483648 -2147483647 2147483647 0");
    }

    /** Differences wrap around, and - in front. */
    static void section2DifferencesWrapAround() {
        Bench.prints(LEAST + "print m - 0; print m - 1; print m - 2; print 0 - m; print -m; print -(m + 1);",
                "-2147483648 2147483647 2147483646 -2147483648 -2147483648 2147483647");
        Bench.prints(MOST + "print m - -1; print -1 - m; print -2 - m; print -m;", "-2147483648 -2147483648 2147483647 -2147483647");
    }

    /** Products wrap around. */
    static void section2ProductsWrapAround() {
        Bench.prints("print 46340 * 46340; print 46341 * 46341; print 65536 * 65536; print 65536 * 32768; print 999999 * 999999;",
                "2147395600 -2147479015 0 -2147483648 " + 999999 * 999999);
        Bench.prints(LEAST + "print m * -1; print m * 2; print m * 3;", "-2147483648 0 -2147483648");
    }

    /** "+ - * / % .. want numbers .. otherwise type is thrown" */
    static void section2ArithmeticWantsNumbers() {
        for (String sign : ARITHMETIC) {
            Bench.prints("print 7 " + sign + " 7;", "" + (sign.equals("+") ? 14 : sign.equals("*") ? 49 : sign.equals("/") ? 1 : 0));
            for (String other : NO_NUMBERS) {
                Bench.prints("print 7 " + sign + other + ";", "throws 'type");
                Bench.prints("print " + other + sign + "7;", "throws 'type");
                Bench.prints("print " + other + sign + other + ";", "throws 'type");
            }
        }
    }

    /** "- in front want(s) numbers" */
    static void section2MinusInFrontWantsANumber() {
        Bench.prints("print -0; print -1; print --1;", "0 -1 1");
        for (String other : NO_NUMBERS) {
            Bench.prints("print -" + other + ";", "throws 'type");
        }
    }

    /** "< > <= >= two numbers: otherwise type is thrown" */
    static void section2ComparisonsWantNumbers() {
        for (String sign : COMPARISONS) {
            for (String other : NO_NUMBERS) {
                Bench.prints("print 7 " + sign + other + ";", "throws 'type");
                Bench.prints("print " + other + sign + "7;", "throws 'type");
                Bench.prints("print " + other + sign + other + ";", "throws 'type");
            }
        }
    }

    /** < > <= >= of numbers that are next to each other, and of those furthest from each other */
    static void section2Comparisons() {
        Bench.prints("print 1<2; print 2<2; print 3<2;", "true false false");
        Bench.prints("print 1>2; print 2>2; print 3>2;", "false false true");
        Bench.prints("print 1<=2; print 2<=2; print 3<=2;", "true true false");
        Bench.prints("print 1>=2; print 2>=2; print 3>=2;", "false true true");
        Bench.prints(MOST + "var n=-m-1; print n<m; print n>m; print m<=n; print m>=n; print -1<0; print -1>=0;",
                "true false false true true false");
    }

    /** "behind both sides were worked out" */
    static void section2TypeBehindBothSides() {
        for (String sign : ARITHMETIC) {
            Bench.prints(TELL + "f(nil)" + sign + "f(1);", "nil 1 throws 'type");
        }
        for (String sign : COMPARISONS) {
            Bench.prints(TELL + "f(nil)" + sign + "f(1);", "nil 1 throws 'type");
        }
        Bench.prints(TELL + "f(1)/f(0);", "1 0 throws 'zero");
    }

    /** "/ is cut towards 0" */
    static void section2DivisionIsCutTowards0() {
        Bench.prints("print 7/2; print -7/2; print 7/-2; print -7/-2; print 1/2; print -1/2; print 8/2; print 0/5; print 999999/1000;",
                "3 -3 -3 3 0 0 4 0 999");
    }

    /** "% is what it leaves (with the sign of the left side)" */
    static void section2RestHasTheSignOfTheLeftSide() {
        Bench.prints("print 7%2; print -7%2; print 7%-2; print -7%-2; print 1%2; print -1%2; print 8%2; print -8%2; print 0%5;",
                "1 -1 1 -1 1 -1 0 0 0");
    }

    /** "if the right side is 0, zero is thrown" */
    static void section2RightSideOf0() {
        Bench.prints("print 5/0;", "throws 'zero");
        Bench.prints("print 5%0;", "throws 'zero");
        Bench.prints("print 0/0;", "throws 'zero");
        Bench.prints("print 0%0;", "throws 'zero");
        Bench.prints("print 5/1; print 5/-1; print 5%1; print 5%-1;", "5 -5 0 0");
        Bench.prints("print 5*0; print 5+0; print 5-0;", "0 5 5");
        Bench.prints("print nil/0;", "throws 'type");
        Bench.prints("print 'a%0;", "throws 'type");
        Bench.prints("print 5/false;", "throws 'type");
    }

    /** "-2147483648 / -1 is -2147483648, with 0 left" */
    static void section2LeastNumberByMinus1() {
        Bench.prints(LEAST + "print m/-1; print m%-1; print m/1; print m%1;", "-2147483648 0 -2147483648 0");
        Bench.prints(LEAST + "m=m+1; print m/-1; print m%-1;", "2147483647 0");
        Bench.prints(LEAST + "print m/-2; print m%-2; print m/m; print 1/m; print -1%m;", "1073741824 0 1 0 -1");
    }

    /** "a and b is a, if a counts as false, and b otherwise"; "b is worked out only if it is needed" */
    static void section2And() {
        Bench.prints("print nil and 1; print false and 1; print 0 and 1; print 'a and nil; print true and false;", "nil false 1 nil false");
        Bench.prints(TELL + "f(nil) and f(1); f(false) and f(2); f(0) and f(3); f(4) and f(5) and f(6); f(7) and f(nil) and f(8);",
                "nil false 0 3 4 5 6 7 nil");
        Bench.prints("print 1 + (0 and 2); print 5 == (nil and 5); print 3 * (4 and 5) - 6;", "3 false 9");
    }

    /** "a or b is a, if a counts as true, and b otherwise"; "b is worked out only if it is needed" */
    static void section2Or() {
        Bench.prints("print nil or 1; print false or nil; print 0 or 1; print 'a or nil; print true or false;", "1 nil 0 '8 true");
        Bench.prints(TELL + "f(nil) or f(1); f(false) or f(2); f(0) or f(3); f(4) or f(5); f(nil) or f(false) or f(6);",
                "nil 1 false 2 0 4 nil false 6");
        Bench.prints("print 1 + (2 or 3); print 5 == (nil or 5); print 3 * (nil or 5) - 6;", "3 true 9");
    }

    /** "All else is worked out from left to right." */
    static void section2LeftToRight() {
        Bench.prints(TELL + "f(1)+f(2)*f(3)-f(4); f(5)==f(6); f(7)<f(8);", "1 2 3 4 5 6 7 8");
        Bench.prints(TELL + "object{a=f(1),b=f(2)}; fun(a,b){}(f(3),f(4));", "1 2 3 4");
        Bench.prints(TELL + "def g(){print 0; return f;} g()(f(1)) + g()(2);", "0 1 1 0 2");
    }

    /** "There are at most 48 at a time." */
    static void section2At48Things() {
        EmberScript x = Bench.done(fill(48));
        Bench.is("state", x.state(), 1);
        Bench.is("things", x.things(), 48);
        Bench.is("collections", x.collections(), 0);
        EmberScript y = Bench.done(fill(49));
        Bench.is("state with one more", y.state(), 2);
        Bench.is("things with one more", y.things(), 48);
    }

    /** "if there are 48, a collection comes first" */
    static void section2CollectionAt48() {
        EmberScript x = Bench.done("for i in 48 {object{};}");
        Bench.is("collections of 48", x.collections(), 0);
        Bench.is("things of 48", x.things(), 48);
        EmberScript y = Bench.done("for i in 49 {object{};}");
        Bench.is("collections of 49", y.collections(), 1);
        Bench.is("freed", y.freed(), 48);
        Bench.is("things of 49", y.things(), 1);
        EmberScript z = Bench.done(fill(47) + "object{}; var p=object{};");
        Bench.is("collections with one to be freed", z.collections(), 1);
        Bench.is("freed", z.freed(), 1);
        Bench.is("the number that was freed", z.numberOf(2), 47);
        Bench.is("things", z.things(), 48);
    }

    /** "and if there are 48 yet, full is thrown": for each sort of thing */
    static void section2Full() {
        String[] makers = {"object{};", "fun(){};", "def f(){}", "weak o;"};
        for (String maker : makers) {
            EmberScript x = Bench.done(fill(48) + maker);
            Bench.is("state " + maker, x.state(), 2);
            Bench.is("full " + maker, x.numberThrown(), 5);
            Bench.is("collections " + maker, x.collections(), 1);
            Bench.is("freed " + maker, x.freed(), 0);
            EmberScript y = Bench.done(fill(48) + "o=o.a; " + maker);
            Bench.is("state with one to be freed " + maker, y.state(), 1);
            Bench.is("collections " + maker, y.collections(), 1);
            Bench.is("things " + maker, y.things(), 48);
        }
        Bench.prints(fill(47) + "def g(){yield 1;} g();", "throws 'full");
        Bench.prints(fill(46) + "def g(){yield 1;} print g();", "generator47");
        Bench.prints(fill(48) + "try{object{};}catch e{print e;} print 1;", "'full 1");
    }

    /** "A new one gets the smallest number from 0 that no thing has" */
    static void section2SmallestNumber() {
        Bench.prints("var a=object{}; print a; var b=object{}; print b; var c=object{}; print c; var d=object{}; print d;"
                + "a=nil; c=nil; collect; print fun(){}; print weak d; print object{};",
                "object0 object1 object2 object3 function0 weak2 object4");
        EmberScript x = Bench.done(fill(48));
        Bench.is("the last number", x.isThere(47), true);
        Bench.is("it is that of the 48th", x.numberOf(0), 47);
    }

    /** "It is made behind all that has to be worked out for it." */
    static void section2MadeBehindAll() {
        Bench.prints("print object{a=object{}};", "object1");
        Bench.prints("print object like object{}{a=fun(){}};", "object2");
        Bench.prints("print weak object{};", "weak1");
        Bench.prints("print fun(a){yield 1;}(object{});", "generator2");
        Bench.prints(fill(47) + TELL + "object{a=f(1)};", "1 throws 'full");
        Bench.prints(fill(47) + TELL + "object like f(o){a=f(1)};", "object46 1 throws 'full");
        Bench.prints(fill(47) + "fun(x){print x; return x;}; weak nil;", "throws 'type");
    }

    // ---- section 3: functions

    /** "A scope has a value for each variable .. at first nil" */
    static void section3ScopeIsNilAtFirst() {
        Bench.prints("print a; var a=1; print a;", "nil 1");
        Bench.prints("def f(x){print a; print b; a=x; if x{var b=x;} var a=5; print b;} f(1); f(nil);", "nil nil 1 nil nil nil");
        Bench.prints("def g(x){print a; var a=1; yield 1;} next g(1); next g(2);", "nil nil");
    }

    /** "A scope has a value for each variable of a function, or of the script": as many as there can be */
    static void section3ScopesHoldAllVariables() {
        StringBuilder script = new StringBuilder();
        StringBuilder tell = new StringBuilder();
        StringBuilder due = new StringBuilder();
        for (int n = 0; n < 15; n++) {
            script.append("var v").append(n).append('=').append(100 + n).append(';');
            tell.append("print v").append(n).append(';');
            due.append(100 + n).append(' ');
        }
        // Each of 10 frames has 10 variables.
        Bench.prints(script + "def f(n){var a=n+1;var b=n+2;var c=n+3;var d=n+4;var e=n+5;var g=n+6;var h=n+7;var i=n+8;var j=n+9;"
                + "if n>1{f(n-1);} if n+a+b+c+d+e+g+h+i+j!=10*n+45{print n;}} f(10);" + tell, due.toString().trim());
        Bench.prints("def f(a,b,c,d,e,f){var g=7;var h=8;var i=9;var j=10;return fun(){return a+b+c+d+e+f+g+h+i+j;};}"
                + "var x=f(1,2,3,4,5,6); var y=f(11,12,13,14,15,16); print x(); print y();", "55 115");
    }

    /** "whose scope round it is the scope in which it is worked out" */
    static void section3ScopeRoundAFunction() {
        Bench.prints("def c(){var n=0; return fun(){n=n+1; return n;};} var a=c(); var b=c(); print a(); print a(); print b();", "1 2 1");
        Bench.prints("var n=1; def f(){return n;} def g(){var n=2; return f();} print g();", "1");
    }

    /** "If it is a weak reference, and there are no values, the call gives the thing to which it refers, or nil, if that was freed" */
    static void section3CallOfAWeakReference() {
        Bench.prints("var o=object{}; var w=weak o; print w(); o=nil; print w(); collect; print w();", "object0 object0 nil");
        Bench.prints("var o=object{}; var w=weak o; o=nil; collect; o=object{}; print o; print w();", "object0 nil");
        Bench.prints("def g(){yield 1;} var w=weak g(); print w(); print weak w; print (weak w)();", "generator1 weak3 weak2");
    }

    /** "with values args is thrown" */
    static void section3WeakReferenceWithValues() {
        Bench.prints("var w=weak object{}; print w();", "object0");
        Bench.prints("var w=weak object{}; w(1);", "throws 'args");
        Bench.prints("var w=weak object{}; collect; print w(); w(1);", "nil throws 'args");
        Bench.prints("var w=weak object{}; w(1,2,3,4,5,6);", "throws 'args");
    }

    /** "If it is neither this nor a function, type is thrown." */
    static void section3CallOfSomethingElse() {
        for (String other : new String[] {"nil", "true", "false", "0", "1", "'type", "object{}", "fun(){yield 1;}()"}) {
            Bench.prints(other + "();", "throws 'type");
            Bench.prints(other + "(1);", "throws 'type");
            Bench.prints(TELL + "var g=" + other + "; g(f(1),f(2));", "1 2 throws 'type");
        }
    }

    /** "If there are not as many values as inputs, args." */
    static void section3AsManyValuesAsInputs() {
        String[] rows = {"", "1", "1,2", "1,2,3", "1,2,3,4", "1,2,3,4,5", "1,2,3,4,5,6"};
        String[] inputs = {"", "a", "a,b", "a,b,c", "a,b,c,d", "a,b,c,d,e", "a,b,c,d,e,f", "a,b,c,d,e,f,g"};
        for (int in = 0; in < inputs.length; in++) {
            for (int values = 0; values < rows.length; values++) {
                String due = in == values ? "9" : "throws 'args";
                Bench.prints("print fun(" + inputs[in] + "){return 9;}(" + rows[values] + ");", due);
                Bench.prints("fun(" + inputs[in] + "){yield 9;}(" + rows[values] + "); print 9;", due);
            }
        }
        Bench.prints("def g(a,b,c,d,e,f){return a*100000+b*10000+c*1000+d*100+e*10+f;} print g(1,2,3,4,5,6);", "123456");
    }

    /** "If the function has a yield of its own, the call gives a new generator, and none of its statements is carried out yet." */
    static void section3CallOfAGenerator() {
        Bench.prints("def g(a){print a; yield 1;} var i=g(5); print i; next i;", "generator1 5");
        Bench.prints("def g(){fun(){yield 1;}; print 2;} print g();", "2 nil");
        Bench.prints("def g(){print 1; if nil{yield 1;}} print g();", "generator1");
    }

    /** "if there are 10 frames, deep is thrown" */
    static void section3TenFrames() {
        String deep = "def f(n){if n>1{f(n-1);}else{%s}} ";
        Bench.prints(String.format(deep, "print 1;") + "f(10);", "1");
        Bench.prints(String.format(deep, "print 1;") + "f(11);", "throws 'deep");
        EmberScript x = Bench.at(String.format(deep, "#print 1;") + "f(10);");
        Bench.is("frames", x.frames(), 10);
        // What is thrown in one frame leaves the others as they were.
        for (int frames = 1; frames <= 10; frames++) {
            Bench.prints("def f(n){if n>1{return 1+f(n-1);} try{nil()+(1+nil());}catch e{return 100;}} print 1000+f(" + frames + ");",
                    String.valueOf(1099 + frames));
        }
        Bench.prints("def k(){return 7;} " + String.format(deep, "print k();") + "f(9);", "7");
        Bench.prints("def k(){return 7;} " + String.format(deep, "print k();") + "f(10);", "throws 'deep");
    }

    /** Generators have frames, too, and the 10 are counted with them. */
    static void section3TenFramesWithGenerators() {
        String deep = "def f(n){if n>1{f(n-1);}else{print 1;}} ";
        Bench.prints(deep + "def g(n){f(n); yield 1;} next g(9);", "1");
        Bench.prints(deep + "def g(n){f(n); yield 1;} next g(10);", "throws 'deep");
    }

    /** What ends ahead of deep, or needs no frame, is as it is, with 10 frames, too. */
    static void section3WhatNeedsNoFrame() {
        String deep = "def f(n){if n>1{f(n-1);}else{%s}} ";
        Bench.prints("var w=weak object{}; " + String.format(deep, "print w();") + "f(10);", "object0");
        Bench.prints("def g(){yield 1;} " + String.format(deep, "print g();") + "f(10);", "generator2");
        Bench.prints(String.format(deep, "nil();") + "f(10);", "throws 'type");
        Bench.prints(String.format(deep, "f();") + "f(10);", "throws 'args");
    }

    /** "until a return, or the end of its block: then the call gives the value of the return, or nil" */
    static void section3WhatACallGives() {
        Bench.prints("print fun(){}(); print fun(){return;}(); print fun(){return nil;}(); print fun(){return 5; print 6;}();", "nil nil nil 5");
        Bench.prints("print fun(){5;}(); print fun(){if nil{return 5;}}();", "nil nil");
    }

    /** "what is in front of the . is worked out, and has to be an object (otherwise type is thrown) .. ahead of the values in ( )" */
    static void section3MethodOfNoObject() {
        for (String other : new String[] {"nil", "true", "1 ", "'a", "fun(){}", "weak object{}", "fun(){yield 1;}()"}) {
            Bench.prints(TELL + "(" + other + ").m(f(1));", "throws 'type");
            Bench.prints("(" + other + ").m();", "throws 'type");
        }
        Bench.prints(TELL + "f(nil).m(f(1));", "nil throws 'type");
    }

    /** "and the slot is looked up (or slot is thrown), ahead of the values in ( )" */
    static void section3MethodWithoutSlot() {
        Bench.prints(TELL + "object{}.m(f(1));", "throws 'slot");
        Bench.prints(TELL + "object{m=1}.m(f(1));", "1 throws 'type");
        Bench.prints(TELL + "object like object{m=f}{}.m(1);", "1");
    }

    /** "self in the function is this object then. In all other calls it is nil, as in the script" */
    static void section3Self() {
        Bench.prints("print self; var o=object{m=fun(){return self;}}; print o.m(); var m=o.m; print m(); print (o.m)();",
                "nil object1 nil nil");
        Bench.prints("var o=object{m=fun(){return fun(){return self;}();}}; print o.m();", "nil");
        Bench.prints("var p=object{m=fun(){return self;}}; var o=object like p{}; print o.m(); print o;", "object2 object2");
    }

    /** "in a generator it is as in the call that made it" */
    static void section3SelfInAGenerator() {
        Bench.prints("var o=object{m=fun(){yield self; yield self;}}; var i=o.m(); print next i; var p=object{i=i,n=fun(){return next i;}};"
                + "print p.n(); print next o.m(); var m=o.m; print next m();", "object1 object1 object1 nil");
    }

    /** "v, which has to be a thing (otherwise type is thrown)" */
    static void section3WeakWantsAThing() {
        for (String other : new String[] {"nil", "true", "false", "0", "5", "'type"}) {
            Bench.prints("weak " + other + ";", "throws 'type");
        }
        Bench.prints("print weak object{}; print weak fun(){}; print weak fun(){yield 1;}(); print weak weak object{};", "weak1 weak3 weak6 weak9");
    }

    // ---- section 4: objects

    /** "An object has at most 8 slots"; "if it has 8, full is thrown" */
    static void section4EightSlots() {
        Bench.prints("var o=object{a=1,b=2,c=3,d=4,e=5,f=6,g=7}; o.h=8; print o.h; o.i=9;", "8 throws 'full");
        Bench.prints("var o=object{}; o.a=1; o.b=2; o.c=3; o.d=4; o.e=5; o.f=6; o.g=7; o.h=8; print o.h; o.i=9;", "8 throws 'full");
        EmberScript x = Bench.done("var o=object{a=1,b=2,c=3,d=4,e=5,f=6,g=7,h=8}; try{o.i=9;}catch e{}");
        Bench.is("slots", x.slots(0), 8);
        Bench.is("the last", x.numberIn(0, 7), 8);
        Bench.is("the first", x.numberIn(0, 0), 1);
    }

    /** "Its own slot w has the value x then": with 8 slots, too */
    static void section4OwnSlotOf8() {
        Bench.prints("var o=object{a=1,b=2,c=3,d=4,e=5,f=6,g=7,h=8}; o.a=11; o.h=18; print o.a; print o.h; print o.b;", "11 18 2");
    }

    /** "if it has none, it gets one, behind the others": also if its parent has one */
    static void section4NewSlotBehindTheOthers() {
        EmberScript x = Bench.done("var p=object{b=1}; var o=object like p{a=2}; o.b=3; o.a=4;");
        Bench.is("slots of the object", x.slots(1), 2);
        Bench.is("its first word", x.wordIn(1, 0), 9);
        Bench.is("its first number", x.numberIn(1, 0), 4);
        Bench.is("its second word", x.wordIn(1, 1), 8);
        Bench.is("its second number", x.numberIn(1, 1), 3);
        Bench.is("slots of the parent", x.slots(0), 1);
        Bench.is("the parent's number", x.numberIn(0, 0), 1);
        Bench.prints("var o=object like object{i=1}{a=1,b=2,c=3,d=4,e=5,f=6,g=7,h=8}; print o.i; o.i=2;", "1 throws 'full");
    }

    /** "what is behind like is worked out first, and has to be an object (otherwise type is thrown)" */
    static void section4ParentHasToBeAnObject() {
        for (String other : new String[] {"nil", "true", "0", "'a", "fun(){}", "self"}) {
            Bench.prints(TELL + "object like " + other + "{a=f(1)};", "throws 'type");
        }
        Bench.prints(TELL + "object like f(weak f){a=f(1)};", "weak1 throws 'type");
        Bench.prints(TELL + "object like f(object{}){a=f(1)};", "object1 1");
    }

    /** "v has to be an object (otherwise type is thrown)": reading */
    static void section4ReadingOfNoObject() {
        for (String other : new String[] {"nil", "true", "1 ", "'a", "fun(){}", "(weak object{})", "fun(){yield 1;}()"}) {
            Bench.prints("print " + other + ".a;", "throws 'type");
        }
    }

    /** "of its parent, or of the parent of that, and so on": as many as there can be */
    static void section4ReadingOfParents() {
        Bench.prints("var o=object{a=1}; o=object like o{b=2}; o=object like o{a=3}; print o.a; print o.b;", "3 2");
        String chain = "var o=object{z=5}; for i in 47{o=object like o{};} ";
        Bench.prints(chain + "print o; print o.z;", "object47 5");
        Bench.prints(chain + "print o.y;", "throws 'slot");
    }

    /** "if none has it, slot is thrown" */
    static void section4ReadingWithoutSlot() {
        Bench.prints("object{}.a;", "throws 'slot");
        Bench.prints("object{b=1}.a;", "throws 'slot");
        Bench.prints("object like object{b=1}{c=1}.a;", "throws 'slot");
        Bench.prints("var o=object{b=1}; var p=object like o{a=2}; print p.a; print o.a;", "2 throws 'slot");
        Bench.prints("print object{a=nil}.a;", "nil");
    }

    /** "v is worked out, then x. Then v has to be an object (otherwise type is thrown)" */
    static void section4AssigningToNoObject() {
        for (String other : new String[] {"nil", "true", "1 ", "'a", "fun(){}", "(weak object{})"}) {
            Bench.prints(TELL + other + ".a=f(1);", "1 throws 'type");
        }
        Bench.prints(TELL + "f(nil).a=f(1);", "nil 1 throws 'type");
        Bench.prints(TELL + "var o=object{a=1,b=2,c=3,d=4,e=5,f=6,g=7,h=8}; o.i=f(9);", "9 throws 'full");
        Bench.prints("nil.a=nil.b;", "throws 'type");
        Bench.prints("nil.a=object{}.b;", "throws 'slot");
    }

    // ---- section 5: statements

    /** "If it is a number n, the variable has 0, 1, .. n - 1": none if it is not greater than 0 */
    static void section5ForOverNumbers() {
        Bench.prints("for i in -1{print i;} print i;", "nil");
        Bench.prints("for i in 0{print i;} print i;", "nil");
        Bench.prints("for i in 1{print i;} print i;", "0 0");
        Bench.prints("for i in 2{print i;} print i;", "0 1 1");
        Bench.prints("for i in 3{print i;}", "0 1 2");
        Bench.prints(LEAST + "for i in m{print i;} print i;", "nil");
        Bench.prints(MOST + "for i in m{print i; if i==1{break;}}", "0 1");
        EmberScript x = Bench.done("for i in 0{1;}");
        Bench.is("steps of none", x.steps(), 1);
    }

    /** "whatever becomes of the variable in between" */
    static void section5ForVariableInBetween() {
        Bench.prints("for i in 3{print i; i=i+10;} print i;", "0 1 2 12");
        Bench.prints("for i in 2{print i; i=nil;} print i;", "0 1 nil");
        Bench.prints("for i in 2{for i in 3{} print i;}", "2 2");
        Bench.prints("var n=3; for i in n{n=0; print i;}", "0 1 2");
    }

    /** "If it is a generator, it is asked for its next value ahead of each round .. as it has ended, the loop is over." */
    static void section5ForOverGenerators() {
        Bench.prints("def g(n){for k in n{yield k+5;}} for i in g(0){print i;} print i; for i in g(1){print i;} for i in g(3){print i;} print i;",
                "nil 5 5 6 7 7");
        Bench.prints("def g(){yield 1;} var j=g(); next j; for i in j{print i;} for i in j{print i;} print 2;", "2");
        Bench.prints("def g(){yield nil; yield false;} for i in g(){print i;}", "nil false");
        Bench.prints("def g(){yield 1; return; yield 2;} for i in g(){print i;}", "1");
        Bench.prints("def g(){yield 1;} for a in 2{for b in g(){for c in g(){print a+b+c;}} print 'w;} print 5;", "2 '8 3 '8 5");
    }

    /** "If it is neither, type is thrown." */
    static void section5ForOverSomethingElse() {
        for (String other : new String[] {"nil", "true", "false", "'type", "object{}", "fun(){yield 1;}", "weak object{}"}) {
            Bench.prints("for i in " + other + "{print i;}", "throws 'type");
        }
    }

    /** "break ends the innermost while or for round it, continue its round." */
    static void section5BreakAndContinue() {
        Bench.prints("for i in 2{for j in 3{if j==1{break;} print j;} print 'a;}", "0 '8 0 '8");
        Bench.prints("for i in 2{for j in 3{if j==1{continue;} print j;} print 'a;}", "0 2 '8 0 2 '8");
        Bench.prints("for i in 2{while true{print i; break;} print 'a;}", "0 '8 1 '8");
        // Whatever stands ahead of the loop, or round it.
        String twice = "for i in 2{for j in 5{break;} for j in 2{continue;} print i;} ";
        Bench.prints("for a in 1{} try{}catch e{} try{}finally{} " + twice, "0 1");
        Bench.prints("for a in 2{try{try{" + twice + "}catch e{}}finally{" + twice + "}}", "0 1 0 1 0 1 0 1");
        Bench.prints("for a in 1{try{def f(){" + twice + "} f();}catch e{}} " + twice, "0 1 0 1");
        Bench.prints("var n=0; while n<4{n=n+1; for i in 1{continue;} if n==2{continue;} if n==4{break;} print n;} print 'a;", "1 3 '8");
    }

    /** "the generator waits behind the yield .. till it is asked again" */
    static void section5YieldWaits() {
        Bench.prints("def g(){print 'a; yield 1; print 'b; yield 2; print 'c;} var i=g(); print next i; print next i; try{next i;}catch e{print e;}",
                "'8 1 '9 2 '10 'done");
        Bench.prints("def g(){for k in 2{yield k;} yield 9;} var a=g(); var b=g(); print next a; print next a; print next b; print next a; print next b;",
                "0 1 0 9 1");
    }

    /** "next v asks v, which has to be a generator (otherwise type is thrown)" */
    static void section5NextWantsAGenerator() {
        for (String other : new String[] {"nil", "true", "1", "'a", "object{}", "fun(){yield 1;}", "weak fun(){yield 1;}()"}) {
            Bench.prints("next " + other + ";", "throws 'type");
        }
        Bench.prints("print next fun(){yield 1;}();", "1");
    }

    /** "If it has ended, done is thrown (by a for that asks, nothing is: it is over)" */
    static void section5Done() {
        Bench.prints("def g(){yield 1;} var i=g(); print next i; next i;", "1 throws 'done");
        Bench.prints("def g(){yield 1;} var i=g(); next i; try{next i;}catch e{print e;} try{next i;}catch e{print e;} for k in i{print k;} print 2;",
                "'done 'done 2");
        Bench.prints("def g(){if nil{yield 1;}} next g();", "throws 'done");
    }

    /** "if it is running, that is, has a frame, busy is thrown" */
    static void section5Busy() {
        Bench.prints("var i=nil; def g(){next i; yield 1;} i=g(); next i;", "throws 'busy");
        Bench.prints("var i=nil; def g(){for k in i{} yield 1;} i=g(); next i;", "throws 'busy");
        Bench.prints("var i=nil; def f(){next i;} def g(){f(); yield 1;} i=g(); next i;", "throws 'busy");
        Bench.prints("var i=nil; def h(){next i; yield 1;} def g(){next h(); yield 1;} i=g(); next i;", "throws 'busy");
        Bench.prints("var i=nil; def g(){yield 1; try{next i;}catch e{yield e;}} i=g(); print next i; print next i;", "1 'busy");
        // As it waits, it is not running.
        Bench.prints("var i=nil; def g(){yield 1; yield 2;} def h(){yield next i;} i=g(); next i; print next h();", "2");
    }

    /** "if there are 10 frames, deep" */
    static void section5AskingWith10Frames() {
        String deep = "def g(){yield 5;} def f(n){if n>1{f(n-1);}else{%s}} ";
        Bench.prints(String.format(deep, "print next g();") + "f(9);", "5");
        Bench.prints(String.format(deep, "print next g();") + "f(10);", "throws 'deep");
        Bench.prints(String.format(deep, "for k in g(){print k;}") + "f(9);", "5");
        Bench.prints(String.format(deep, "for k in g(){print k;}") + "f(10);", "throws 'deep");
        // It has not begun then, and can be asked later.
        Bench.prints("var i=fun(){yield 5;}(); def f(n){if n>1{f(n-1);}else{next i;}} try{f(10);}catch e{print e;} print next i;", "'deep 5");
    }

    /** "If it has ended, done .. if it is running .. busy .. if there are 10 frames, deep": in this order */
    static void section5DoneAndBusyAheadOfDeep() {
        String deep = "def f(n){if n>1{f(n-1);}else{%s}} ";
        Bench.prints("var i=fun(){if nil{yield 1;}}(); try{next i;}catch e{} " + String.format(deep, "next i;") + "f(10);", "throws 'done");
        Bench.prints("var i=fun(){if nil{yield 1;}}(); for k in i{} " + String.format(deep, "for k in i{} print 2;") + "f(10);", "2");
        Bench.prints("var i=nil; " + String.format(deep, "next i;") + "def g(){f(9); yield 1;} i=g(); next i;", "throws 'busy");
        Bench.prints("var i=nil; " + String.format(deep, "for k in i{}") + "def g(){f(9); yield 1;} i=g(); next i;", "throws 'busy");
    }

    /** "If its block ends, or a return comes, it has ended: then done is thrown where next asked (a for is over)." */
    static void section5GeneratorEnds() {
        Bench.prints("def g(){yield 1;} var i=g(); next i; try{next i;}catch e{print e;}", "'done");
        Bench.prints("def g(){yield 1; return;} var i=g(); next i; try{next i;}catch e{print e;}", "'done");
        Bench.prints("def g(){return; yield 1;} var i=g(); try{next i;}catch e{print e;} for k in g(){print k;} print 2;", "'done 2");
        Bench.prints("def g(){try{next g2;}catch e{yield e;}} var g2=fun(){if nil{yield 1;}}(); print next g();", "'done");
    }

    /** "If something is thrown that it does not catch, it has ended, too, and that is thrown on where it was asked." */
    static void section5GeneratorThrows() {
        Bench.prints("def g(){yield 1; throw 7;} var i=g(); next i; try{next i;}catch e{print e;} next i;", "7 throws 'done");
        Bench.prints("def g(){yield 1; throw 7;} var i=g(); try{for k in i{print k;}}catch e{print e;} next i;", "1 7 throws 'done");
        Bench.prints("def g(){try{throw 7;}catch e{yield e;} yield 8;} for k in g(){print k;}", "7 8");
    }

    /** "What is thrown in the block of a try with a catch .. ends this block; the variable of the catch has the value thrown then" */
    static void section5Catch() {
        Bench.prints("try{print 1; throw 2; print 3;}catch e{print e;} print e;", "1 2 2");
        Bench.prints("try{print 1;}catch e{print 2;} print e;", "1 nil");
        Bench.prints("try{throw nil;}catch e{print e;} try{throw false;}catch e{print e;}", "nil false");
        Bench.prints("def f(){throw 2;} def g(){f(); yield 1;} try{f();}catch e{print e;} try{next g();}catch e{print e;} try{for k in g(){}}catch e{print e;}",
                "2 2 2");
        Bench.prints("def f(){try{throw 2;}catch e{print e;} return 3;} try{print f();}catch e{print 4;}", "2 3");
        Bench.prints("try{throw 1;}catch e{throw 2;}", "throws 2");
        Bench.prints("try{try{throw 1;}finally{}}catch e{print e;}", "1");
    }

    /** "The block of a finally is carried out behind the block of the try, and of the catch, in whatever way these end" */
    static void section5Finally() {
        String[] ways = {"", "throw 1;", "return 1;", "break;", "continue;"};
        String[] behind = {"'8 3 '8 3 '9 nil", "'8 throws 1", "'8 1", "'8 '9 nil", "'8 '8 '9 nil"};
        for (int n = 0; n < ways.length; n++) {
            Bench.prints("def f(){for i in 2{try{" + ways[n] + "}finally{print 'a;} print 3;} print 'z;} print f();", behind[n]);
            Bench.prints("def f(){for i in 2{try{throw 0;}catch e{" + ways[n] + "}finally{print 'a;} print 3;} print 'z;} print f();", behind[n]);
        }
        Bench.prints("try{throw 1;}catch e{print e;}finally{print 2;} print 3;", "1 2 3");
        Bench.prints("try{}catch e{}finally{print 2;} print 3;", "2 3");
    }

    /** "Behind it, that which ended them goes on": also if something in the finally was thrown and caught, or left a loop in it */
    static void section5FinallyGoesOn() {
        Bench.prints("try{throw 1;}finally{try{throw 2;}catch e{print e;}}", "2 throws 1");
        Bench.prints("try{throw 1;}finally{for i in 2{break;} while true{break;} for i in 2{continue;} print 3;}", "3 throws 1");
        Bench.prints("def f(){try{return 1;}finally{fun(){return 2;}();}} print f();", "1");
        Bench.prints("def f(){try{return 1;}finally{try{throw 5;}catch e{}finally{print 6;}}} print f();", "6 1");
        Bench.prints("def f(){try{try{return 1;}finally{print 2;}}finally{print 3;}} print f();", "2 3 1");
    }

    /** "if the block of the finally itself ends by a value that it does not catch, a return .. that comes in its place" */
    static void section5FinallyInItsPlace() {
        String[] ways = {"", "throw 1;", "return 1;", "break;", "continue;"};
        for (String way : ways) {
            Bench.prints("def f(){for i in 2{try{" + way + "}finally{throw 5;} print 3;}} f();", "throws 5");
            Bench.prints("def f(){for i in 2{try{" + way + "}finally{return 5;} print 3;}} print f();", "5");
            Bench.prints("def f(){for i in 2{try{" + way + "}finally{break;} print 3;} return i;} print f();", "0");
            Bench.prints("def f(){for i in 2{try{" + way + "}finally{continue;} print 3;} return i;} print f();", "1");
        }
    }

    /** "A value thrown that a function does not catch ends its frame, and is thrown on where it was called." */
    static void section5ThrownOn() {
        Bench.prints("def f(n){if n>0{f(n-1);} throw n;} try{f(9);}catch e{print e;} f(9);", "0 throws 0");
        EmberScript x = Bench.at("def f(n){if n>0{f(n-1);} throw 7;} try{f(9);}catch e{#1;}");
        Bench.is("frames behind 10 of them", x.frames(), 0);
        Bench.prints("def f(){throw 1;} def g(){try{f();}finally{print 2;}} try{g();}catch e{print e;}", "2 1");
    }

    /** "If the script does not catch it, the script has failed, and all frames are gone. Behind its last statement the script has ended." */
    static void section5FailedOrEnded() {
        EmberScript x = Bench.done("def f(n){if n>0{f(n-1);} throw 7;} f(9); print 1;");
        Bench.is("state", x.state(), 2);
        Bench.is("frames", x.frames(), 0);
        Bench.is("printed", x.printed(), 0);
        EmberScript y = Bench.with("1; 2;");
        y.run(1);
        Bench.is("state ahead of the last", y.state(), 0);
        y.run(1);
        Bench.is("state behind the last", y.state(), 1);
    }

    /** "(A generator that is freed while it waits in a try does not carry out its finally.)" */
    static void section5FreedGenerator() {
        EmberScript x = Bench.done("def g(){try{yield 1;}finally{print 2;}} next g(); collect;");
        Bench.is("freed", x.freed(), 1);
        Bench.is("printed", x.printed(), 0);
        Bench.is("state", x.state(), 1);
        // The next one with its number is in no try, and no loop.
        Bench.prints("def g(){for i in 3{try{yield 1;}catch e{yield 2;}}} def h(){yield 5; throw 6;} next g(); collect;"
                + "var i=h(); print i; print next i; next i;", "generator2 5 throws 6");
    }
}
