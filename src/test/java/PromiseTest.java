/** For each promise ordinary inputs, the edges that the document names, and wrong inputs. */
public final class PromiseTest {
    private static final Due due = new Due();
    private static final long MUCH = UsedUp.MUCH;

    public static void main(String[] args) {
        promise1();
        promise2();
        promise3();
        promise4();
        promise5();
        promise6Faults();
        promise6Limits();
        promise7();
        promise8();
        promise9Time();
        promise9Room();
        promise9Amounts();
        promise9SixDefs();
        promise10();
        promise11();
        promise12();
        promise13();
        promise14();
        promise15();
        promise16();
        promise16Edges();
        promise17();
        promise18();
        promise19();
        promise20();
        due.finish();
    }

    private static void promise1() {
        UsedUp x = new UsedUp();
        due.is("1 status", x.status(), 0);
        due.is("1 fault", x.fault(), -1);
        due.is("1 capped", x.capped(0), -1);
        due.is("1 spends", x.spends(0, 0, 0, 0, 0), -1);
        due.is("1 ask", x.ask(0), -1);
        due.is("1 where", x.where(0), -1);
        due.is("1 need", x.need(0), -1);
        due.is("1 ahead", x.ahead(0, 1), -1);
        due.is("1 tangled", x.tangled(), 0);
        for (int what = 0; what <= 5; what++) {
            due.is("1 count " + what, x.count(what), 0);
        }
        due.is("1 worst", x.worst(0, 0), -6);
        due.is("1 cheapest", x.cheapest(0, 0), -6);
        due.is("1 budgets", x.budgets(0), -6);
        due.is("1 cap", x.cap(0, 0), -2);
        due.is("NONE", UsedUp.NONE, -1);
        due.is("MUCH", UsedUp.MUCH, 1000000000000L);
    }

    private static void promise2() {
        UsedUp x = Due.with("spend a+b+c+d;");
        due.is("2 first sizes", x.worst(0, 180), 20);
        due.is("2 first weights", x.cheapest(0, 7), 7);
        for (int k = 0; k < 4; k++) {
            due.is("2 name", x.name(k, k + 1, 9), 0);
        }
        due.is("2 sizes", x.worst(0, 1000), 10);
        due.is("2 weights", x.cheapest(0, 10), 90);
        due.is("2 zero", x.name(3, 0, 0), 0);
        due.is("2 zero size", x.worst(0, 1000), 6);
        due.is("2 five nine", x.name(3, 5, 9), 0);
        int[][] wrong = {{-1, 1, 1}, {4, 1, 1}, {0, -1, 1}, {0, 6, 1}, {0, 1, -1}, {0, 1, 10},
            {Integer.MIN_VALUE, 0, 0}, {Integer.MAX_VALUE, 0, 0}, {0, Integer.MAX_VALUE, 0}, {0, 0, Integer.MIN_VALUE}};
        for (int[] row : wrong) {
            due.is("2 wrong", x.name(row[0], row[1], row[2]), -1);
            due.is("2 wrong status", x.status(), -1);
        }
        due.is("2 wrong changed nothing", x.worst(0, 1000), 11);
        Due.program(x, "spend d;");
        due.is("2 stays over programs", x.cheapest(0, 2), 18);
    }

    private static void promise3() {
        UsedUp x = new UsedUp();
        for (int i = 1; i <= 20; i++) {
            due.is("3 feed", x.feed(0, -1, i, Integer.MIN_VALUE, Integer.MAX_VALUE), 20 * i);
        }
        due.is("3 full", x.feed(0, 0, 0, 0, 0), -1);
        due.is("3 still full", x.count(4), 400);
        x.end(381);
        due.is("3 too many by one", x.feed(0, 0, 0, 0, 0), -1);
        due.is("3 nothing came", x.count(4), 381);
        x.end(380);
        due.is("3 just so many", x.feed(0, 0, 0, 0, 0), 400);
        UsedUp y = new UsedUp();
        // "spen" "d 1*" "1*1*" "1*1*" "1*2;": the highest byte of each number is the first.
        y.feed(0x7370656e, 0x6420312a, 0x312a312a, 0x312a312a, 0x312a323b);
        due.is("3 order of bytes", y.program(), 0);
        due.is("3 order of numbers", y.spends(0, 0, 0, 0, 0), 2);
        due.is("3 status is not touched", y.status(), 0);
    }

    private static void promise4() {
        UsedUp x = new UsedUp();
        due.is("4 nothing of nothing", x.end(0), 0);
        due.is("4 more than none", x.end(1), -1);
        x.feed(1, 2, 3, 4, 5);
        due.is("4 all", x.end(20), 20);
        due.is("4 too many", x.end(21), -1);
        due.is("4 below 0", x.end(-1), -1);
        due.is("4 far below 0", x.end(Integer.MIN_VALUE), -1);
        due.is("4 far above", x.end(Integer.MAX_VALUE), -1);
        due.is("4 unchanged", x.count(4), 20);
        due.is("4 some", x.end(7), 7);
        due.is("4 cut bytes are gone", x.end(8), -1);
        due.is("4 behind them", x.feed(0, 0, 0, 0, 0), 27);
    }

    private static void promise5() {
        UsedUp x = new UsedUp();
        due.is("5 places", Due.program(x, "times a { times b { spend 1; } } times 3 { spend 1; }"), 3);
        due.is("5 status", x.status(), 0);
        due.is("5 tape is empty", x.count(4), 0);
        x.cap(0, 3);
        x.cap(2, 0);
        x.ordinary(1, 1, 1, 1);
        x.worst(0, 3);
        long before = x.spends(0, 4, 4, 4, 4);
        due.is("5 fails", Due.program(x, "times a { spend 1 }"), -6);
        due.is("5 status of it", x.status(), -6);
        due.is("5 tape is empty then too", x.count(4), 0);
        due.is("5 stays", x.spends(0, 4, 4, 4, 4), before);
        due.is("5 caps stay", x.count(3), 2);
        due.is("5 places stay", x.count(0), 3);
        due.is("5 steps stay", x.count(1), 5);
        due.is("5 empty text", x.program(), -6);
        due.is("5 none", Due.program(x, "spend 1;"), 0);
        due.is("5 another", x.spends(0, 4, 4, 4, 4), 1);
        due.is("5 ordinary asks stay", x.count(2), 1);
        due.is("5 latest ask stays", x.ask(0), 2);
        due.is("5 new places", Due.program(x, "times a { spend 1; }"), 1);
        due.is("5 no caps", x.capped(0), -1);
        due.is("5 no caps counted", x.count(3), 0);
        due.is("5 without blanks", Due.program(x, "def f{spend1;}times2{if a<3{call f;}else{hold4{lock5{call f;}}}}"), 1);
        due.is("5 many blanks", Due.program(x, "   times   a   {  spend  1  ;  }   "), 1);
        due.is("5 zeros ahead", Due.program(x, "spend 0000000000000000000000001;"), 0);
        due.is("5 zeros ahead are a number", x.spends(0, 0, 0, 0, 0), 1);
    }

    private static void promise6Faults() {
        due.faultAt("", 0);
        due.faultAt("    ", 4);
        due.faultAt("spend 1", 7);
        due.faultAt("spend 1   ", 10);
        due.faultAt("spend ;", 6);
        due.faultAt("spend e;", 6);
        due.faultAt("spend ab;", 6);
        due.faultAt("spend 1001;", 6);
        due.faultAt("spend 99999999999999999999;", 6);
        due.faultAt("spend 4294967297;", 6);
        due.faultAt("spend 1 2;", 8);
        due.faultAt("spend 2a;", 7);
        due.faultAt("spend 1+;", 8);
        due.faultAt("spend 1**2;", 8);
        due.faultAt("spend double 3;", 13);
        due.faultAt("spend doublea;", 6);
        due.faultAt("spend az;", 6);
        due.faultAt("spend zb;", 6);
        due.faultAt("spend 19a90;", 8);
        due.faultAt("spend double double a;", 13);
        due.faultAt("spends 1;", 0);
        due.faultAt("Spend 1;", 0);
        due.faultAt("spend 1; }", 9);
        due.faultAt("times 1 { }", 10);
        due.faultAt("times 1 { spend 1; ", 19);
        due.faultAt("times { spend 1; }", 6);
        due.faultAt("times 1 spend 1;", 8);
        due.faultAt("hold a { }", 9);
        due.faultAt("lock 8 { spend 1; }", 5);
        due.faultAt("lock a { spend 1; }", 5);
        due.faultAt("lock 1+1 { spend 1; }", 6);
        due.faultAt("call f;", 5);
        due.faultAt("def f { call f; } spend 1;", 13);
        due.faultAt("def f { spend 1; } call g;", 24);
        due.faultAt("def f { spend 1; } call a;", 24);
        due.faultAt("def f { spend 1; } call f", 25);
        due.faultAt("def f { spend 1; }", 18);
        due.faultAt("def f { spend 1; } def f { spend 1; } spend 1;", 23);
        due.faultAt("def e { spend 1; } spend 1;", 4);
        due.faultAt("def l { spend 1; } spend 1;", 4);
        due.faultAt("def f { } spend 1;", 8);
        due.faultAt("def f spend 1;", 6);
        due.faultAt("def f { def g { spend 1; } } spend 1;", 8);
        due.faultAt("spend 1; def f { spend 1; }", 9);
        due.faultAt("times 1 { def f { spend 1; } }", 10);
        due.faultAt("if e < 1 { spend 1; }", 3);
        due.faultAt("if 1 < 1 { spend 1; }", 3);
        due.faultAt("if a > 1 { spend 1; }", 5);
        due.faultAt("if a < b { spend 1; }", 7);
        due.faultAt("if a < 1001 { spend 1; }", 7);
        due.faultAt("if a < 1 { spend 1; } else spend 1;", 27);
        due.faultAt("if a < 1 { spend 1; } else { }", 29);
        due.faultAt("if a < 1 { spend 1; } else { spend 1; } else { spend 1; }", 40);
        due.faultAt("times 1 { spend 1; } else { spend 1; }", 21);
        due.faultAt("else { spend 1; }", 0);
        due.faultAt("spend 1;\tspend 1;", 8);
        due.faultAt("spend 1;\nspend 1;", 8);
        due.faultAt("spend 1;" + (char) 233, 8);
        due.faultAt("spend 1" + (char) 0 + ";", 7);
        due.good("spend 1000;");
        due.good("if a < 1000 { spend 0; }");
        due.good("if d < 0 { spend 0; } else { spend 1; }");
        due.good("lock 7 { spend double d*double a+3*b+c; }");
        due.good("def f{spend 1;}def g{spend 1;}def h{spend 1;}def i{spend 1;}def j{spend 1;}def k{call f;}call k;");
        due.good("def k { spend 1; } def f { call k; } call f;");
        UsedUp x = new UsedUp();
        Due.program(x, "spend");
        due.is("6 kept", x.fault(), 5);
        x.cap(0, 0);
        due.is("6 kept over other calls", x.fault(), 5);
        Due.program(x, "spend 1;");
        due.is("6 gone", x.fault(), -1);
    }

    private static String nested(String head, int deep) {
        StringBuilder text = new StringBuilder();
        for (int i = 0; i < deep; i++) {
            text.append(head);
        }
        text.append("spend1;");
        for (int i = 0; i < deep; i++) {
            text.append('}');
        }
        return text.toString();
    }

    private static void promise6Limits() {
        due.good(nested("hold1{", 8));
        due.faultAt(nested("hold1{", 9), 8 * 6 + 5);
        due.good("def f{" + nested("lock1{", 7) + "}call f;");
        due.faultAt("def f{" + nested("lock1{", 8) + "}call f;", 6 + 7 * 6 + 5);
        due.good(nested("if a<1{", 8) + nested("hold1{", 8));
        due.faultAt(nested("hold1{", 7).replace("spend1;", "if a<1{spend1;}else{hold1{spend1;}}"), 7 * 6 + 20 + 5);
        due.good(nested("times1{", 8));
        String eight = "times1{spend1;}".repeat(8);
        due.good(eight);
        due.faultAt(eight + "times1{spend1;}", eight.length());
        due.faultAt("def f{times1{spend1;}}" + eight, 22 + 7 * 15);
        due.faultAt("def f{spend1;}def g{spend1;}def h{spend1;}def i{spend1;}def j{spend1;}def k{spend1;}def l{", 88);
        due.faultAt("def f{spend1;}def g{spend1;}def h{spend1;}def i{spend1;}def j{spend1;}def k{spend1;}def h{", 88);
        String most = "spend1;".repeat(57);
        UsedUp x = Due.with(most);
        due.is("6 as many steps as there is room for", x.count(1), 57);
        due.is("6 their time", x.spends(0, 0, 0, 0, 0), 57);
        UsedUp y = Due.with("spend" + "1+".repeat(196) + "1;");
        due.is("6 the longest sum", y.spends(0, 0, 0, 0, 0), 197);
        UsedUp z = Due.with("spend" + "1*".repeat(196) + "d;");
        due.is("6 the longest product", z.spends(0, 0, 0, 0, 7), 7);
        UsedUp whole = new UsedUp();
        String full = "spend1;" + " ".repeat(392) + "x";
        due.is("6 four hundred bytes", Due.program(whole, full), -6);
        due.is("6 the last byte", whole.fault(), 399);
        due.is("6 unended", Due.program(whole, "spend1" + " ".repeat(394)), -6);
        due.is("6 the end of four hundred", whole.fault(), 400);
    }

    private static void promise7() {
        UsedUp x = Due.with("times a { spend 1; } times b { spend 1; }");
        due.is("7 first", x.cap(0, 0), -1);
        due.is("7 its status", x.status(), 0);
        due.is("7 was", x.cap(0, 1000000), 0);
        due.is("7 was the most", x.cap(0, 5), 1000000);
        due.is("7 none", x.cap(0, -1), 5);
        due.is("7 was none", x.cap(0, -1), -1);
        due.is("7 was none status", x.status(), 0);
        due.is("7 below none", x.cap(0, -2), -1);
        due.is("7 below none status", x.status(), -1);
        due.is("7 above", x.cap(0, 1000001), -1);
        due.is("7 above status", x.status(), -1);
        due.is("7 no place", x.cap(2, 1), -2);
        due.is("7 no place status", x.status(), -2);
        due.is("7 below", x.cap(-1, 1), -2);
        due.is("7 far", x.cap(Integer.MAX_VALUE, -1), -2);
        due.is("7 far below", x.cap(Integer.MIN_VALUE, -1), -2);
        due.is("7 the number first", x.cap(2, -2), -1);
        due.is("7 nothing changed", x.count(3), 0);
        x.cap(1, 2);
        due.is("7 turns are capped", x.spends(0, 3, 9, 0, 0), 6 + 4);
        due.is("7 fewer turns are not", x.spends(0, 3, 1, 0, 0), 6 + 2);
        x.cap(1, 0);
        due.is("7 no turns", x.spends(0, 3, 9, 0, 0), 6);
    }

    private static void promise8() {
        UsedUp x = Due.with("times a { spend 1; } times b { spend 1; }");
        due.is("8 none", x.capped(0), -1);
        x.cap(1, 77);
        due.is("8 cap", x.capped(1), 77);
        due.is("8 other", x.capped(0), -1);
        due.is("8 no place", x.capped(2), -1);
        due.is("8 below", x.capped(-1), -1);
        due.is("8 far", x.capped(Integer.MAX_VALUE), -1);
        due.is("8 far below", x.capped(Integer.MIN_VALUE), -1);
    }

    private static void promise9Time() {
        due.is("9 spend", Due.with("spend 7;").spends(0, 0, 0, 0, 0), 7);
        due.is("9 block", Due.with("spend 7; spend 0; spend 2;").spends(0, 0, 0, 0, 0), 9);
        due.is("9 times", Due.with("times 3 { spend 2; }").spends(0, 0, 0, 0, 0), 9);
        due.is("9 times 0", Due.with("times 0 { spend 2; }").spends(0, 0, 0, 0, 0), 0);
        due.is("9 hold", Due.with("hold 5 { spend 2; }").spends(0, 0, 0, 0, 0), 2);
        due.is("9 lock", Due.with("lock 5 { spend 2; }").spends(0, 0, 0, 0, 0), 2);
        due.is("9 call", Due.with("def f { spend 2; } call f;").spends(0, 0, 0, 0, 0), 3);
        due.is("9 not called", Due.with("def f { spend 2; } spend 1;").spends(0, 0, 0, 0, 0), 1);
        due.is("9 calls of calls", Due.with("def f { spend 2; } def g { call f; call f; } call g; call f;")
            .spends(0, 0, 0, 0, 0), 7 + 3);
        UsedUp x = Due.with("if a < 3 { spend 10; } else { spend 20; } if b < 2 { spend 100; }");
        due.is("9 if", x.spends(0, 2, 1, 0, 0), 11 + 101);
        due.is("9 else", x.spends(0, 3, 2, 0, 0), 21 + 1);
        due.is("9 above size", x.spends(0, 1000, 1000, 1000, 1000), 22);
        for (int k = 0; k < 4; k++) {
            due.is("9 1001", x.spends(0, k == 0 ? 1001 : 0, k == 1 ? 1001 : 0, k == 2 ? 1001 : 0, k == 3 ? 1001 : 0), -1);
            due.is("9 below 0", x.spends(0, k == 0 ? -1 : 0, k == 1 ? -1 : 0, k == 2 ? -1 : 0, k == 3 ? -1 : 0), -1);
        }
        due.is("9 sort below", x.spends(-1, 0, 0, 0, 0), -1);
        due.is("9 sort above", x.spends(2, 0, 0, 0, 0), -1);
        due.is("9 far", x.spends(0, Integer.MIN_VALUE, 0, 0, Integer.MAX_VALUE), -1);
        due.is("9 status is not touched", x.status(), 0);
        due.is("9 an ask is not kept", x.ask(0), -1);
    }

    private static void promise9Room() {
        due.is("9 room of spend", Due.with("spend 7;").spends(1, 0, 0, 0, 0), 0);
        due.is("9 room of hold", Due.with("hold 4 { hold 3 { spend 1; } hold 2 { spend 1; } }").spends(1, 0, 0, 0, 0), 7);
        due.is("9 room of a block", Due.with("hold 4 { spend 1; } hold 9 { spend 1; } hold 2 { spend 1; }")
            .spends(1, 0, 0, 0, 0), 9);
        due.is("9 room of lock", Due.with("lock 4 { hold 3 { spend 1; } }").spends(1, 0, 0, 0, 0), 3);
        UsedUp x = Due.with("times a { hold 3 { spend 1; } }");
        due.is("9 room of no turns", x.spends(1, 0, 0, 0, 0), 0);
        due.is("9 room of turns", x.spends(1, 9, 0, 0, 0), 3);
        x.cap(0, 0);
        due.is("9 room of turns that are capped away", x.spends(1, 9, 0, 0, 0), 0);
        due.is("9 room of call", Due.with("def f { hold a { spend 1; } } hold 2 { call f; call f; }").spends(1, 6, 0, 0, 0), 8);
        UsedUp y = Due.with("if a < 2 { hold 5 { spend 1; } } else { hold 6 { spend 1; } }");
        due.is("9 room of if", y.spends(1, 1, 0, 0, 0), 5);
        due.is("9 room of else", y.spends(1, 2, 0, 0, 0), 6);
        due.is("9 room of none", Due.with("if a < 2 { hold 5 { spend 1; } }").spends(1, 2, 0, 0, 0), 0);
        due.is("9 much room", Due.with("hold double a { hold double b { spend 1; } }").spends(1, 39, 39, 0, 0), MUCH);
        due.is("9 room just below", Due.with("hold double a { hold 1 { spend 1; } }").spends(1, 39, 0, 0, 0), 549755813889L);
    }

    private static void promise9Amounts() {
        due.is("9 sum and product", Due.with("spend 2+3*4*a+b*c+d;").spends(0, 2, 3, 5, 7), 2 + 24 + 15 + 7);
        due.is("9 double", Due.with("spend double a*3+double b;").spends(0, 0, 5, 0, 0), 3 + 32);
        due.is("9 double 39", Due.with("spend double a;").spends(0, 39, 0, 0, 0), 549755813888L);
        due.is("9 double 40", Due.with("spend double a;").spends(0, 40, 0, 0, 0), MUCH);
        due.is("9 double 64", Due.with("spend double a;").spends(0, 64, 0, 0, 0), MUCH);
        due.is("9 double 1000", Due.with("spend double a;").spends(0, 1000, 0, 0, 0), MUCH);
        due.is("9 much times 0", Due.with("spend double a*double a*b+3;").spends(0, 1000, 0, 0, 0), 3);
        due.is("9 just much", Due.with("spend 1000*1000*1000*1000;").spends(0, 0, 0, 0, 0), MUCH);
        due.is("9 just below", Due.with("spend 999*1000*1000*1000;").spends(0, 0, 0, 0, 0), 999000000000L);
        due.is("9 just above", Due.with("spend 1000*1000*1000*1000+1;").spends(0, 0, 0, 0, 0), MUCH);
        due.is("9 much in turns", Due.with("times double a { times double a { times double a { spend double a; } } }")
            .spends(0, 1000, 0, 0, 0), MUCH);
        due.is("9 one below much, in turns", Due.with("times 1000*1000+1 { spend 999*1000+998; }").spends(0, 0, 0, 0, 0), MUCH - 1);
        due.is("9 just above much, in turns", Due.with("times 1000*1000+1 { spend 999*1000+999; }").spends(0, 0, 0, 0, 0), MUCH);
        due.is("9 much in no turns", Due.with("times b { spend double a; }").spends(0, 1000, 0, 0, 0), 0);
        due.is("9 all thousands", Due.with("spend a*b*c*d;").spends(0, 1000, 1000, 1000, 999), 999000000000L);
    }

    private static void promise9SixDefs() {
        UsedUp x = Due.with("def k{times 2{lock 0{hold 1{spend 1;}}}}def j{times 2{lock 1{hold 2{call k;}}}}def i{times 2{lock 2{hold 4{call j;}}}}"
            + "def h{times 2{lock 3{hold 8{call i;}}}}def g{times 2{lock 4{hold 16{call h;}}}}def f{times 2{lock 5{hold 32{call g;}}}}"
            + "times a{lock 6{hold 64{call f;}}}");
        // k: 2 * (1 + 1) = 4; each of the others twice what the one ahead brings, and 2 for it: 4, 12, 28, 60, 124, 252.
        due.is("9 six defs", x.spends(0, 3, 0, 0, 0), 3 * (252 + 2));
        due.is("9 room of six defs", x.spends(1, 3, 0, 0, 0), 127);
        x.worst(0, 2);
        long often = 2;
        long[] once = {4, 12, 28, 60, 124, 252};
        for (int place = 5; place >= 0; place--) {
            due.is("13 six defs " + place, x.where(place), often * once[place]);
            often *= 2;
        }
        due.is("13 six defs, last", x.where(6), 2 * 254);
        for (int l = 0; l <= 6; l++) {
            for (int m = 0; m <= 6; m++) {
                due.is("17 six defs " + l + " " + m, x.ahead(l, m), l > m ? 1 : 0);
            }
        }
        due.is("19 six defs", x.count(5), 6);
    }

    private static void promise10() {
        UsedUp x = Due.with("spend a+2*b; hold c { spend 1; }");
        due.is("10 all", x.worst(0, 1000), 16);
        due.latest("10 lightest of alike", x, 5, 5, 0, 0);
        due.is("10 three", x.worst(0, 3), 7);
        due.latest("10 three", x, 0, 3, 0, 0);
        due.is("10 room", x.worst(1, 3), 3);
        due.latest("10 room", x, 0, 0, 3, 0);
        due.is("10 nothing", x.worst(0, 0), 1);
        due.latest("10 nothing", x, 0, 0, 0, 0);
        due.is("10 status", x.status(), 0);
        x.worst(0, 3);
        due.is("10 sort", x.worst(2, 3), -1);
        due.is("10 sort below", x.worst(-1, 3), -1);
        due.is("10 w below 0", x.worst(0, -1), -1);
        due.is("10 refused", x.status(), -1);
        due.latest("10 stays", x, 0, 3, 0, 0);
        UsedUp y = Due.with("spend a+b;");
        due.is("10 alike", y.worst(0, 4), 4);
        due.latest("10 the first", y, 0, 4, 0, 0);
        y.name(1, 5, 2);
        y.worst(0, 4);
        due.latest("10 by weight", y, 4, 0, 0, 0);
        y.name(0, 5, 0);
        due.is("10 weightless", y.worst(0, 0), 5);
        due.latest("10 weightless", y, 5, 0, 0, 0);
        UsedUp z = Due.with("if a < 1 { spend 4; } else { spend 4; } if b < 3 { spend 9; }");
        due.is("10 where less is more", z.worst(0, 9), 5 + 10);
        due.latest("10 where less is more", z, 0, 0, 0, 0);
        UsedUp tested = Due.with("if d < 4 { spend 1; } else { if a < 2 { spend 1; } else { spend 7; } }");
        due.is("10 names that are tested only", tested.worst(0, 100), 9);
        due.latest("10 names that are tested only", tested, 2, 0, 0, 4);
        UsedUp c = Due.with("times a { spend 1; }");
        c.cap(0, 2);
        due.is("10 caps", c.worst(0, 9), 4);
        due.latest("10 lightest with caps", c, 2, 0, 0, 0);
        UsedUp none = new UsedUp();
        due.is("10 none, but the number first", none.worst(5, 0), -1);
        due.is("10 none", none.worst(1, 0), -6);
        due.is("10 none status", none.status(), -6);
        due.is("10 none kept", none.ask(0), -1);
    }

    private static void promise11() {
        UsedUp x = Due.with("spend a+2*b; hold c { spend 1; }");
        due.is("11 six", x.cheapest(0, 6), 3);
        due.latest("11 six", x, 0, 3, 0, 0);
        due.is("11 five", x.cheapest(0, 5), 2);
        due.is("11 just all", x.cheapest(0, 16), 10);
        due.is("11 one more", x.cheapest(0, 17), -6);
        due.is("11 status", x.status(), -6);
        due.latest("11 stays", x, 5, 5, 0, 0);
        due.is("11 room", x.cheapest(1, 4), 4);
        due.latest("11 room", x, 0, 0, 4, 0);
        due.is("11 nothing", x.cheapest(0, 0), 0);
        due.is("11 its status", x.status(), 0);
        due.latest("11 nothing", x, 0, 0, 0, 0);
        due.is("11 sort", x.cheapest(2, 0), -1);
        due.is("11 sort below", x.cheapest(-1, 0), -1);
        due.is("11 refused", x.status(), -1);
        // Each ASK brings at least what is below 0, so the lightest, first one of all is meant.
        x.worst(0, 100);
        due.is("11 below 0", x.cheapest(0, -1), 0);
        due.is("11 below 0 is not refused", x.status(), 0);
        due.latest("11 below 0", x, 0, 0, 0, 0);
        x.worst(1, 100);
        due.is("11 far below 0", x.cheapest(1, Long.MIN_VALUE), 0);
        due.latest("11 far below 0", x, 0, 0, 0, 0);
        due.is("11 below 0, but the sort first", x.cheapest(2, -1), -1);
        due.is("11 far above", x.cheapest(0, Long.MAX_VALUE), -6);
        UsedUp y = Due.with("spend a+b+c;");
        due.is("11 alike", y.cheapest(0, 3), 3);
        due.latest("11 the first", y, 0, 0, 3, 0);
        y.name(2, 5, 9);
        y.name(1, 5, 3);
        y.name(0, 1, 2);
        due.is("11 by weight", y.cheapest(0, 3), 2 + 6);
        due.latest("11 by weight", y, 1, 2, 0, 0);
        UsedUp much = Due.with("times 1000*1000 { spend double a*1000*1000; }");
        due.is("11 much", much.cheapest(0, MUCH), 0);
        due.is("11 above much", much.cheapest(0, MUCH + 1), -6);
        UsedUp none = new UsedUp();
        due.is("11 none, but the number first", none.cheapest(7, 0), -1);
        due.is("11 none", none.cheapest(0, 0), -6);
        due.is("11 none, below 0", none.cheapest(0, -4294967296L), -6);
        due.is("11 none, below 0, status", none.status(), -6);
        due.is("11 none, far below 0", none.cheapest(1, Long.MIN_VALUE), -6);
        due.is("11 none kept", none.ask(0), -1);
    }

    private static void promise12() {
        UsedUp x = Due.with("spend a*b*c*d;");
        due.is("12 none", x.ask(0), -1);
        x.name(0, 1, 1);
        x.name(1, 2, 1);
        x.name(2, 3, 1);
        x.name(3, 4, 1);
        x.worst(0, 100);
        due.latest("12", x, 1, 2, 3, 4);
        due.is("12 below", x.ask(-1), -1);
        due.is("12 above", x.ask(4), -1);
        due.is("12 far", x.ask(Integer.MAX_VALUE), -1);
        due.is("12 far below", x.ask(Integer.MIN_VALUE), -1);
        x.cheapest(0, 1);
        due.latest("12 of cheapest", x, 1, 1, 1, 1);
    }

    private static void promise13() {
        UsedUp x = Due.with("def f { times 2 { spend 1; } } times a { call f; if b < 1 { call f; } else { spend 1; } } "
            + "times 3 { spend a; } if a < 1 { times 9 { spend 1; } }");
        due.is("13 no ask", x.where(0), -1);
        x.name(0, 3, 1);
        x.name(1, 0, 1);
        due.is("13 worst", x.worst(0, 100), 3 * 12 + 3 * 4 + 1);
        due.latest("13", x, 3, 0, 0, 0);
        due.is("13 in a def", x.where(0), 6 * 4);
        due.is("13 around it", x.where(1), 36);
        due.is("13 beside it", x.where(2), 12);
        due.is("13 not come to", x.where(3), 0);
        due.is("13 no place", x.where(4), -1);
        due.is("13 below", x.where(-1), -1);
        due.is("13 far", x.where(Integer.MAX_VALUE), -1);
        x.cap(1, 1);
        due.is("13 caps of now", x.where(0), 2 * 4);
        x.cap(0, 0);
        due.is("13 no turns", x.where(0), 0);
        due.is("13 around no turns", x.where(1), 1 + 1 + 1 + 1);
        due.is("13 an ask given does not count", x.spends(0, 1, 0, 0, 0), 4 + 6 + 1);
        due.is("13 still the latest", x.where(2), 12);
        UsedUp y = Due.with("times 1000*1000 { times 1000*1000 { times 1 { spend 1; } } }");
        y.worst(0, 0);
        due.is("13 much", y.where(2), MUCH);
        UsedUp z = Due.with("def f { times 9 { spend 1; } } spend 1;");
        z.worst(0, 9);
        due.is("13 not called", z.where(0), 0);
        Due.program(z, "times 2 { times 5 { spend 3; } }");
        due.is("13 another program, the same ask", z.where(1), 40);
        UsedUp none = new UsedUp();
        due.is("13 no program", none.where(0), -1);
    }

    private static void promise14() {
        UsedUp x = new UsedUp();
        int[][] wrong = {{-1, 0, 0, 0}, {0, 1001, 0, 0}, {0, 0, -1, 0}, {0, 0, 0, 1001}, {Integer.MIN_VALUE, 0, 0, 0}};
        for (int[] row : wrong) {
            due.is("14 wrong", x.ordinary(row[0], row[1], row[2], row[3]), -1);
            due.is("14 wrong status", x.status(), -1);
        }
        due.is("14 none came", x.count(2), 0);
        for (int i = 1; i <= 12; i++) {
            due.is("14", x.ordinary(0, 1000, 7, 7), i);
            due.is("14 status", x.status(), 0);
        }
        due.is("14 no room", x.ordinary(0, 0, 0, 0), -5);
        due.is("14 no room status", x.status(), -5);
        due.is("14 the number first", x.ordinary(0, 0, 0, 1001), -1);
        due.is("14 twelve", x.count(2), 12);
    }

    private static void promise15() {
        UsedUp x = Due.with("times a+b { spend 1; } if a < 0 { times double c { spend 1; } } times 4 { spend 1; }");
        due.is("15 without any", x.need(0), 0);
        due.is("15 without any, of a number", x.need(2), 0);
        x.ordinary(3, 2, 0, 0);
        due.is("15", x.need(0), 5);
        x.ordinary(1, 1, 3, 0);
        due.is("15 the greatest", x.need(0), 5);
        due.is("15 not come to", x.need(1), 8);
        due.is("15 a number", x.need(2), 4);
        x.cap(0, 1);
        due.is("15 caps do not matter", x.need(0), 5);
        x.ordinary(0, 0, 1000, 0);
        due.is("15 much", x.need(1), MUCH);
        due.is("15 no place", x.need(3), -1);
        due.is("15 below", x.need(-1), -1);
        due.is("15 far", x.need(Integer.MIN_VALUE), -1);
        UsedUp y = new UsedUp();
        for (int i = 1; i <= 12; i++) {
            y.ordinary(i, 0, 0, 0);
        }
        due.is("15 no program", y.need(0), -1);
        Due.program(y, "def f { times a { spend 1; } } spend 1;");
        due.is("15 the twelfth, in a def", y.need(0), 12);
    }

    private static void promise16() {
        UsedUp x = Due.with("times a { spend 1; } times b { spend 1; } times c { spend 1; }");
        x.ordinary(1, 2, 3, 0);
        x.cap(2, 0);
        due.is("16 fewest is none", x.budgets(30), 0);
        due.is("16 caps are gone", x.count(3), 0);
        due.is("16 one", x.budgets(29), 1);
        due.is("16 the first of alike", x.capped(0), 1);
        due.is("16 nothing elsewhere", x.capped(1), -1);
        due.is("16 one, the hardest", x.budgets(22), 1);
        due.is("16 it is a", x.capped(0), 1);
        due.is("16 two", x.budgets(21), 2);
        due.is("16 a", x.capped(0), 1);
        due.is("16 b", x.capped(1), 2);
        due.is("16 not c", x.capped(2), -1);
        due.is("16 two, with room", x.budgets(18), 2);
        due.is("16 first row: a", x.capped(0), 1);
        due.is("16 first row: b", x.capped(1), 2);
        due.is("16 three", x.budgets(12), 3);
        due.is("16 c", x.capped(2), 3);
        due.is("16 status", x.status(), 0);
        due.is("16 not even with all", x.budgets(11), -6);
        due.is("16 its status", x.status(), -6);
        due.is("16 caps stay", x.count(3), 3);
        due.is("16 below 0", x.budgets(-1), -1);
        due.is("16 below 0 status", x.status(), -1);
        due.is("16 far below 0", x.budgets(Long.MIN_VALUE), -1);
        due.is("16 caps stay then too", x.count(3), 3);
        due.is("16 ordinary work is as it was", x.spends(0, 1, 2, 3, 0), 12);
        due.is("16 kept below", x.worst(0, 100), 12);
        due.is("16 far above", x.budgets(Long.MAX_VALUE), 0);
    }

    private static void promise16Edges() {
        UsedUp x = Due.with("times b { spend 1; } times a { times c { spend 1; } }");
        due.is("16 without ordinary asks", x.budgets(0), 2);
        due.is("16 nothing is needed", x.capped(0), 0);
        due.is("16 around is the first", x.capped(1), 0);
        due.is("16 within is not", x.capped(2), -1);
        due.is("16 one in the middle", x.budgets(10), 1);
        due.is("16 the middle", x.capped(1), 0);
        UsedUp y = Due.with("times double a { spend 1; } times b { spend 1; }");
        y.ordinary(20, 0, 0, 0);
        due.is("16 a need that can be no cap", y.need(0), 1048576);
        due.is("16 not by it", y.budgets(64), 1);
        due.is("16 but by the other", y.capped(1), 0);
        due.is("16 nor with all", y.budgets(63), -6);
        UsedUp z = Due.with("times 1000*1000*a { spend 1; }");
        z.ordinary(1, 0, 0, 0);
        due.is("16 the greatest cap", z.budgets(2000000), 1);
        due.is("16 is a million", z.capped(0), 1000000);
        UsedUp w = Due.with("if a < 1 { spend 50; } else { times a { spend 1; } }");
        due.is("16 what has no place", w.budgets(50), -6);
        due.is("16 what has no place is within", w.budgets(51), 0);
        w.name(0, 0, 1);
        due.is("16 sizes", w.budgets(51), 0);
        UsedUp big = Due.with("spend double a*1000*1000*1000*1000;");
        due.is("16 much is not above much", big.budgets(MUCH), 0);
        due.is("16 much is above less", big.budgets(MUCH - 1), -6);
        UsedUp eight = Due.with("times a{spend1;}".repeat(8));
        due.is("16 eight", eight.budgets(0), 8);
        due.is("16 five of eight", eight.budgets(30), 5);
        due.is("16 the first five", eight.capped(4), 0);
        due.is("16 no more", eight.capped(5), -1);
        UsedUp none = new UsedUp();
        due.is("16 none, but the number first", none.budgets(-1), -1);
        due.is("16 none", none.budgets(1), -6);
    }

    private static void promise17() {
        UsedUp x = Due.with("def f { lock 3 { lock 4 { spend 1; } } } def g { lock 2 { call f; } } "
            + "lock 0 { if a < 0 { lock 1 { lock 0 { spend 1; } } } else { times 0 { lock 5 { spend 1; } } } } lock 6 { call f; }");
        int[][] ahead = {{3, 4}, {2, 3}, {2, 4}, {0, 1}, {1, 0}, {0, 5}, {6, 3}, {6, 4}};
        for (int l = 0; l < 8; l++) {
            for (int m = 0; m < 8; m++) {
                int want = 0;
                for (int[] row : ahead) {
                    want = row[0] == l && row[1] == m ? 1 : want;
                }
                due.is("17 " + l + " " + m, x.ahead(l, m), want);
            }
        }
        due.is("17 below", x.ahead(-1, 0), -1);
        due.is("17 above", x.ahead(0, 8), -1);
        due.is("17 far", x.ahead(Integer.MAX_VALUE, 0), -1);
        due.is("17 far below", x.ahead(0, Integer.MIN_VALUE), -1);
        Due.program(x, "lock 7 { spend 1; } lock 6 { spend 1; }");
        due.is("17 beside one another", x.ahead(7, 6), 0);
        due.is("17 not of the program before", x.ahead(3, 4), 0);
        due.is("17 no program", new UsedUp().ahead(0, 1), -1);
    }

    private static void promise18() {
        due.is("18 none", Due.with("lock 0 { lock 1 { spend 1; } }").tangled(), 0);
        due.is("18 two", Due.with("lock 0 { lock 1 { spend 1; } } lock 1 { lock 0 { spend 1; } }").tangled(), 3);
        due.is("18 itself is not", Due.with("lock 5 { lock 5 { spend 1; } }").tangled(), 0);
        due.is("18 within one another", Due.with("lock 5 { lock 7 { lock 5 { spend 1; } } }").tangled(), 32 + 128);
        UsedUp x = Due.with("def f { lock 2 { lock 4 { spend 1; } } } def g { lock 7 { call f; } } "
            + "lock 4 { lock 7 { spend 1; } } lock 0 { lock 2 { spend 1; } } lock 7 { lock 1 { spend 1; } }");
        due.is("18 by calls, and not what leads in or out", x.tangled(), 4 + 16 + 128);
        Due.program(x, "spend");
        due.is("18 stays", x.tangled(), 4 + 16 + 128);
        Due.program(x, "spend 1;");
        due.is("18 another program", x.tangled(), 0);
        due.is("18 all around", Due.with("lock 0{lock 1{spend1;}}lock 1{lock 2{spend1;}}lock 2{lock 3{spend1;}}lock 3{lock 4{spend1;}}"
            + "lock 4{lock 5{spend1;}}lock 5{lock 6{spend1;}}lock 6{lock 7{spend1;}}lock 7{lock 0{spend1;}}").tangled(), 255);
        due.is("18 no program", new UsedUp().tangled(), 0);
    }

    private static void promise19() {
        UsedUp x = Due.with("def f { spend 1; } def h { call f; } times a { if a < 1 { spend 1; } else { hold 1 { call h; } } } times 1 { spend 1; }");
        due.is("19 places", x.count(0), 2);
        due.is("19 steps", x.count(1), 9);
        due.is("19 ordinary", x.count(2), 0);
        due.is("19 caps", x.count(3), 0);
        due.is("19 tape", x.count(4), 0);
        due.is("19 defs", x.count(5), 2);
        x.ordinary(1, 1, 1, 1);
        x.cap(1, 0);
        x.feed(0, 0, 0, 0, 0);
        due.is("19 ordinary then", x.count(2), 1);
        due.is("19 caps then", x.count(3), 1);
        due.is("19 tape then", x.count(4), 20);
        x.cap(1, -1);
        due.is("19 caps gone", x.count(3), 0);
        due.is("19 below", x.count(-1), -1);
        due.is("19 above", x.count(6), -1);
        due.is("19 far", x.count(Integer.MIN_VALUE), -1);
    }

    private static void promise20() {
        UsedUp x = new UsedUp();
        due.is("20 ahead of any", x.status(), 0);
        x.program();
        due.is("20 program", x.status(), -6);
        x.feed(0, 0, 0, 0, 0);
        x.feed(0, 0, 0, 0, 0);
        x.end(99);
        x.fault();
        x.capped(0);
        x.spends(0, 0, 0, 0, 0);
        x.ask(9);
        x.where(0);
        x.need(0);
        x.ahead(9, 9);
        x.tangled();
        x.count(9);
        due.is("20 others do not count", x.status(), -6);
        x.name(0, 5, 1);
        due.is("20 name", x.status(), 0);
        x.cap(0, -2);
        due.is("20 cap", x.status(), -1);
        x.cap(0, 0);
        due.is("20 cap without a place", x.status(), -2);
        x.ordinary(0, 0, 0, 0);
        due.is("20 ordinary", x.status(), 0);
        x.worst(0, 0);
        due.is("20 worst", x.status(), -6);
        x.ordinary(0, 0, 0, 0);
        x.cheapest(0, 0);
        due.is("20 cheapest", x.status(), -6);
        x.ordinary(0, 0, 0, 0);
        x.budgets(0);
        due.is("20 budgets", x.status(), -6);
        Due.program(x, "times a { spend 1; }");
        due.is("20 program that can be", x.status(), 0);
        x.cap(5, 5);
        x.worst(0, 1);
        due.is("20 worst is not refused", x.status(), 0);
        x.cap(5, 5);
        x.cheapest(0, 1);
        due.is("20 cheapest is not refused", x.status(), 0);
        x.cap(5, 5);
        x.budgets(1);
        due.is("20 budgets is not refused", x.status(), 0);
        x.cap(5, 5);
        x.cap(0, 5);
        due.is("20 cap is not refused", x.status(), 0);
    }
}
