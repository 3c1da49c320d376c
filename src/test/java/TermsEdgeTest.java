/**
 * The sentences of the document's Terms I to V that name a boundary, one test or more for each: the last that is
 * allowed, the first that is not. The sentence stands over its test, as the document has it.
 */
public final class TermsEdgeTest {
    private static final Due due = new Due();
    private static final long MUCH = UsedUp.MUCH;
    private static final String NAMES = "abcd";
    /** 999,999,999,999. */
    private static final String ONE_BELOW_MUCH = "999*1000*1000*1000+999*1000*1000+999*1000+999";
    private static final String JUST_MUCH = "1000*1000*1000*1000";

    public static void main(String[] args) {
        sizes();
        weights();
        weightOfAnAsk();
        asksInOrder();
        bytesOfAText();
        blanks();
        rowsOfLetters();
        rowsOfDigits();
        lettersOfDefs();
        noLetterTwice();
        sixDefs();
        callsOfWholeDefs();
        namesAreFour();
        noBlockIsEmpty();
        numbersOfLocks();
        numbersToThousand();
        eightBraces();
        bracesThatAreClosed();
        eightTimes();
        stepsThatFit();
        faultOfEachToken();
        faultOfTheEnd();
        elseBehindIfAlone();
        defsAheadAlone();
        placesInOrder();
        turnsByCap();
        amountsToMuch();
        doubles();
        timesToMuch();
        roomsToMuch();
        timeOfEachStep();
        ifBelow();
        roomOfEachStep();
        worstOfAtMost();
        worstOfAlike();
        cheapestOfAtLeast();
        cheapestOfAlike();
        whereOverAll();
        whereToMuch();
        ordinaryAsks();
        needs();
        budgetsOfTheFewest();
        budgetsOfTheFirst();
        budgetsOverAllAsks();
        budgetsOverAllChoices();
        budgetsOfGreatNeeds();
        heldAhead();
        heldAheadByCalls();
        tangledLocks();
        due.finish();
    }

    private static long time(String text, int a) {
        return Due.with(text).spends(0, a, 0, 0, 0);
    }

    private static long room(String text, int a) {
        return Due.with(text).spends(1, a, 0, 0, 0);
    }

    // I. "0 .. SIZE of each (SIZE 0 .. 5; 5 at first)"
    private static void sizes() {
        for (int k = 0; k < 4; k++) {
            UsedUp x = Due.with("spend " + NAMES.charAt(k) + ";");
            due.is("SIZE is 5 at first", x.worst(0, 999), 5);
            due.is("SIZE at first", x.ask(k), 5);
            for (int size = 5; size >= 0; size--) {
                due.is("SIZE " + size, x.name(k, size, 1), 0);
                due.is("SIZE " + size + " is reached", x.worst(0, 999), size);
                due.is("SIZE " + size + " is asked", x.ask(k), size);
                due.is("no ASK above SIZE " + size, x.cheapest(0, size + 1), -6);
            }
            x.name(k, 3, 1);
            for (int size : new int[] {-1, 6}) {
                due.is("SIZE can't be " + size, x.name(k, size, 1), -1);
                due.is("SIZE can't be " + size + ", status", x.status(), -1);
                due.is("SIZE stays, not " + size, x.worst(0, 999), 3);
            }
        }
    }

    // I. "WEIGHT of each (0 .. 9; 1 at first)"
    private static void weights() {
        for (int k = 0; k < 4; k++) {
            UsedUp x = Due.with("spend " + NAMES.charAt(k) + ";");
            due.is("WEIGHT is 1 at first", x.cheapest(0, 1), 1);
            due.is("WEIGHT at first, five times", x.cheapest(0, 5), 5);
            for (int weight = 0; weight <= 9; weight++) {
                due.is("WEIGHT " + weight, x.name(k, 5, weight), 0);
                due.is("WEIGHT " + weight + " once", x.cheapest(0, 1), weight);
                due.is("WEIGHT " + weight + " five times", x.cheapest(0, 5), 5 * weight);
            }
            for (int weight : new int[] {-1, 10}) {
                due.is("WEIGHT can't be " + weight, x.name(k, 2, weight), -1);
                due.is("WEIGHT can't be " + weight + ", status", x.status(), -1);
                due.is("WEIGHT stays, not " + weight, x.cheapest(0, 5), 45);
            }
        }
    }

    // I. "an ASK weighs its numbers times WEIGHTS, summed"
    private static void weightOfAnAsk() {
        UsedUp x = Due.with("spend a*b*c*d;");
        int[][] named = {{1, 9}, {2, 8}, {3, 7}, {4, 6}};
        for (int k = 0; k < 4; k++) {
            x.name(k, named[k][0], named[k][1]);
        }
        due.is("weight of 1 2 3 4", x.cheapest(0, 24), 9 + 16 + 21 + 24);
        due.is("weight of 1 1 1 1", x.cheapest(0, 1), 30);
        for (int k = 0; k < 4; k++) {
            x.name(k, 5, 9);
        }
        due.is("the heaviest ASK of all", x.cheapest(0, 625), 180);
        due.is("the heaviest is within 180", x.worst(0, 180), 625);
        due.is("the heaviest is not within 179", x.worst(0, 179), 500);
    }

    // I. "ASKS in order: as rows, the lower first, a first."
    private static void asksInOrder() {
        UsedUp x = Due.with("spend a+b+c+d;");
        for (int k = 0; k < 4; k++) {
            x.name(k, 5, 0);
        }
        x.cheapest(0, 0);
        due.latest("the first ASK of all", x, 0, 0, 0, 0);
        x.cheapest(0, 1);
        due.latest("the first of 1", x, 0, 0, 0, 1);
        x.cheapest(0, 6);
        due.latest("the first of 6", x, 0, 0, 1, 5);
        x.cheapest(0, 11);
        due.latest("the first of 11", x, 0, 1, 5, 5);
        x.cheapest(0, 16);
        due.latest("the first of 16", x, 1, 5, 5, 5);
        x.cheapest(0, 20);
        due.latest("the last of all", x, 5, 5, 5, 5);
    }

    // II. "a TEXT of at most 400 bytes"
    private static void bytesOfAText() {
        due.good(" " + "spend1;".repeat(57));
        due.good("spend1;" + " ".repeat(393));
        due.good(" ".repeat(393) + "spend1;");
        due.good("spend" + "0".repeat(393) + "1;");
        due.faultAt("spend1;" + " ".repeat(392) + "}", 399);
        UsedUp x = new UsedUp();
        Due.tape(x, "spend1;" + " ".repeat(393));
        due.is("no 401st byte", x.feed(0x20202020, 0x20202020, 0x20202020, 0x20202020, 0x20202020), -1);
        due.is("the 400 are a PROGRAM still", x.program(), 0);
    }

    // II. "any blanks (32) between TOKENS"
    private static void blanks() {
        due.good("spend1;spend1;");
        for (int code = 0; code < 256; code++) {
            String between = String.valueOf((char) code);
            if (code == 32) {
                due.good("spend 1; " + between + " spend 1;");
                due.good(between + " spend 1;");
                due.good("spend 1; " + between);
            } else {
                due.faultAt("spend 1; " + between + " spend 1;", 9);
                due.faultAt(between + " spend 1;", 0);
                due.faultAt("spend 1; " + between, 9);
            }
        }
        due.faultAt("spe nd 1;", 0);
        due.faultAt("spend 1 0;", 8);
        due.faultAt("spend dou ble a;", 6);
        due.good("  def  f  {  spend  double  a  *  2  +  b  ;  }  if  a  <  3  {  call  f  ;  }  else  {  spend  1  ;  }  ");
    }

    // II. "TOKENS (longest rows of letters a .. z"
    private static void rowsOfLetters() {
        for (int code = 0; code < 256; code++) {
            String text = "spend" + (char) code + "1;";
            if (code == ' ' || code >= '0' && code <= '9') {
                due.good(text);
            } else {
                due.faultAt(text, code >= 'a' && code <= 'z' ? 0 : 5);
            }
        }
        for (int code = 0; code < 256; code++) {
            boolean letter = code >= 'a' && code <= 'z';
            due.faultAt("spend a" + (char) code + "%", "+*; ".indexOf(code) >= 0 ? 8 : letter ? 6 : 7);
        }
    }

    // II. "of digits, single other bytes)"
    private static void rowsOfDigits() {
        for (int code = 0; code < 256; code++) {
            String text = "spend 1" + (char) code + ";";
            if (code == ' ' || code >= '0' && code <= '9') {
                due.good(text);
            } else {
                due.faultAt(text, code == '+' || code == '*' || code == ';' ? 8 : 7);
            }
        }
        due.is("a row of digits is one NUMBER", time("spend 123;", 0), 123);
        due.is("digits of each sort", time("spend 987+654+321+0;", 0), 987 + 654 + 321);
        due.faultAt("spend 1++1;", 8);
        due.faultAt("times 1{{spend 1;}}", 8);
        due.good("times 1{times 1{spend 1;}}");
    }

    // II. "DEF: "def" LETTER (f .. k"
    private static void lettersOfDefs() {
        for (int code = 33; code < 256; code++) {
            String text = "def " + (char) code + " { spend 1; } spend 1;";
            if (code >= 'f' && code <= 'k') {
                due.good(text);
                due.good("def " + (char) code + " { spend 1; } call " + (char) code + ";");
            } else {
                due.faultAt(text, 4);
            }
            if (code != 'f') {
                due.faultAt("def f { spend 1; } call " + (char) code + " ;", 24);
            }
        }
        due.faultAt("def fg { spend 1; } spend 1;", 4);
        due.faultAt("def f { spend 1; } call ff;", 24);
    }

    // II. "none twice)"
    private static void noLetterTwice() {
        for (char letter = 'f'; letter <= 'k'; letter++) {
            due.faultAt("def " + letter + "{spend 1;}def " + letter + "{spend 1;}spend 1;", 19);
            due.faultAt("def " + letter + "{spend 1;}def " + (letter == 'f' ? 'k' : 'f') + "{spend 1;}def " + letter + "{spend 1;}spend 1;", 34);
        }
        StringBuilder six = new StringBuilder();
        for (char letter = 'k'; letter >= 'f'; letter--) {
            six.append("def ").append(letter).append("{spend 1;}");
        }
        due.good(six + "spend 1;");
        for (char letter = 'a'; letter <= 'z'; letter++) {
            due.faultAt(six + "def " + letter + "{spend 1;}spend 1;", 94);
        }
    }

    // II. "LETTER (f .. k, none twice)": six DEFS are the most, and the last of them is as the first.
    private static void sixDefs() {
        String[] letters = {"fghijk", "kjihgf", "gkfjhi"};
        for (String row : letters) {
            StringBuilder text = new StringBuilder("def " + row.charAt(0) + "{times 2{lock 0{hold 1{spend 0;}}}}");
            for (int i = 1; i < 6; i++) {
                text.append("def ").append(row.charAt(i)).append("{lock ").append(i).append("{hold ").append(i + 1).append("{call ")
                    .append(row.charAt(i - 1)).append(";}}}");
            }
            UsedUp x = Due.with(text + "lock 6{call " + row.charAt(5) + ";}call " + row.charAt(2) + ";");
            due.is("six DEFS", x.count(5), 6);
            due.is("TIME of six DEFS", x.spends(0, 0, 0, 0, 0), 2 + 6 + 2 + 3);
            due.is("ROOM of six DEFS", x.spends(1, 0, 0, 0, 0), 1 + 2 + 3 + 4 + 5 + 6);
            x.worst(0, 0);
            due.is("WHERE by six DEFS", x.where(0), 4);
            for (int l = 0; l < 8; l++) {
                for (int m = 0; m < 8; m++) {
                    due.is("locks of six DEFS " + l + " " + m, x.ahead(l, m), l < 7 && l > m ? 1 : 0);
                }
            }
        }
    }

    // II. ""call" LETTER ";" (of a DEF that stands whole ahead of it)"
    private static void callsOfWholeDefs() {
        due.faultAt("call f;", 5);
        due.faultAt("def f{call f;}spend 1;", 11);
        due.faultAt("def f{call g;}def g{spend 1;}spend 1;", 11);
        due.faultAt("def g{spend 1;}def f{times 1{call f;}}spend 1;", 34);
        due.good("def g{spend 1;}def f{times 1{call g;}}call f;");
        due.good("def f{spend 1;}call f;call f;");
        UsedUp x = Due.with("def f{spend 1;}call f;");
        due.is("a DEF of the PROGRAM before", Due.program(x, "call f;"), -6);
        due.is("it is none of this TEXT", x.fault(), 5);
        due.is("a DEF of a TEXT that can't be", Due.program(x, "def g{spend 1;}spend"), -6);
        due.is("nor is that", Due.program(x, "call g;"), -6);
    }

    // I. "NAMES a, b, c, d"
    private static void namesAreFour() {
        for (char letter = 'a'; letter <= 'z'; letter++) {
            String[] texts = {"spend " + letter + ";", "times " + letter + "{spend 1;}", "hold  " + letter + "{spend 1;}"};
            for (String text : texts) {
                if (letter <= 'd') {
                    due.good(text);
                } else {
                    due.faultAt(text, 6);
                }
            }
            if (letter <= 'd') {
                due.good("if " + letter + "<1{spend 1;}");
                due.good("spend double " + letter + ";");
            } else {
                due.faultAt("if " + letter + "<1{spend 1;}", 3);
                due.faultAt("spend double " + letter + ";", 13);
            }
        }
        due.faultAt("spend double 0;", 13);
        due.faultAt("spend double;", 12);
        due.is("each NAME its own number", Due.with("spend a+b*10+c*100+d*1000;").spends(0, 1, 2, 3, 4), 4321);
        due.is("each NAME its own double", Due.with("spend double a+double b+double c+double d;").spends(0, 1, 3, 5, 7), 2 + 8 + 32 + 128);
    }

    // II. "BLOCK: STEP {STEP}."
    private static void noBlockIsEmpty() {
        due.faultAt("", 0);
        due.faultAt("def f{}spend 1;", 6);
        due.faultAt("times 1{}", 8);
        due.faultAt("hold 1{}", 7);
        due.faultAt("lock 1{}", 7);
        due.faultAt("if a<1{}", 7);
        due.faultAt("if a<1{spend 1;}else{}", 21);
        due.faultAt("def f{spend 1;}", 15);
        due.faultAt("spend 1;}", 8);
        due.faultAt("times 1{spend 1;}}", 17);
        due.good("times 1{spend 1;spend 1;}");
    }

    // II. ""lock" NUMBER (0 .. 7)"
    private static void numbersOfLocks() {
        for (int number = 0; number <= 1001; number++) {
            if (number <= 7) {
                due.good("lock " + number + "{spend 1;}");
            } else {
                due.faultAt("lock " + number + "{spend 1;}", 5);
            }
        }
        due.faultAt("lock 4294967296{spend 1;}", 5);
        due.faultAt("lock -1{spend 1;}", 5);
        due.faultAt("lock a{spend 1;}", 5);
        due.faultAt("lock {spend 1;}", 5);
    }

    // II. "NUMBERS to 1000."
    private static void numbersToThousand() {
        String[] heads = {"spend ", "times ", "hold ", "if a<", "spend 1+", "spend 1*", "spend a*"};
        String[] tails = {";", "{spend 1;}", "{spend 1;}", "{spend 1;}", ";", ";", "+1;"};
        String[] good = {"0", "1", "9", "10", "99", "100", "999", "1000"};
        String[] wrong = {"1001", "1009", "1010", "1100", "2000", "9999", "10000", "65536", "2147483648", "4294967296",
            "4294968296", "18446744073709551616", "18446744073709552616", "100000000000000000000000000000"};
        for (int i = 0; i < heads.length; i++) {
            for (String number : good) {
                due.good(heads[i] + number + tails[i]);
            }
            for (String number : wrong) {
                due.faultAt(heads[i] + number + tails[i], heads[i].length());
            }
        }
        due.is("1000 is 1000", time("spend 1000;", 0), 1000);
        due.is("0 is 0", time("spend 0;", 0), 0);
    }

    private static String around(int deep, String head, String inner) {
        return head.repeat(deep) + inner + "}".repeat(deep);
    }

    // II. "At most 8 "{" within one another (FAULT at the ninth)"
    private static void eightBraces() {
        String[] heads = {"hold 1{", "lock 1{", "if a<1{", "times 1{", "if a<1{spend 1;}else{"};
        for (String head : heads) {
            due.good(around(8, head, "spend 1;"));
            due.good(around(7, "hold 1{", head + "spend 1;}"));
            due.faultAt(around(8, "hold 1{", head + "spend 1;}"), 8 * 7 + head.indexOf('{'));
            due.good("def f{" + around(6, "hold 1{", head + "spend 1;}") + "}call f;");
            due.faultAt("def f{" + around(7, "hold 1{", head + "spend 1;}") + "}call f;", 6 + 7 * 7 + head.indexOf('{'));
        }
        due.faultAt(around(9, "lock 1{", "spend 1;"), 8 * 7 + 6);
        due.faultAt(around(8, "hold 1{", "times 1"), 8 * 7 + 7);
    }

    // II. "within one another": such as are closed don't count.
    private static void bracesThatAreClosed() {
        due.good("hold 1{spend 1;}".repeat(20));
        due.good(around(8, "hold 1{", "spend 1;").repeat(5));
        due.good(around(7, "hold 1{", "if a<1{spend 1;}else{spend 1;}lock 1{spend 1;}"));
        due.good("def f{" + around(7, "hold 1{", "spend 1;") + "}" + around(8, "hold 1{", "spend 1;"));
        // What a call goes into is not within the call.
        due.good("def f{" + around(7, "hold 1{", "spend 1;") + "}" + around(8, "hold 1{", "call f;"));
    }

    // II. "8 "times" (FAULT at the ninth)"
    private static void eightTimes() {
        String one = "times 1{spend 1;}";
        for (int many = 0; many <= 8; many++) {
            UsedUp x = new UsedUp();
            due.is(many + " times", Due.program(x, one.repeat(many) + "spend 1;"), many);
            due.is(many + " times counted", x.count(0), many);
        }
        due.faultAt(one.repeat(9), 8 * 17);
        due.faultAt(one.repeat(8) + "times", 8 * 17);
        due.faultAt(one.repeat(8) + "spend 1; times 1 {", 8 * 17 + 9);
        due.good(around(8, "times 1{", "spend 1;"));
        due.faultAt(around(7, "times 1{", one + "spend 1;" + one), 7 * 8 + 17 + 8);
        due.faultAt("def f{" + one.repeat(4) + "}" + one.repeat(5), 6 + 4 * 17 + 1 + 4 * 17);
        due.faultAt(one.repeat(8) + "if a<1{spend 1;}else{" + one + "}", 8 * 17 + 21);
        UsedUp x = Due.with(one.repeat(8));
        due.is("eight again in the next TEXT", Due.program(x, one.repeat(8)), 8);
    }

    // II. "60 STEPS (FAULT at the 61st's first TOKEN)": 7 bytes are the least that a STEP takes, so 57 are the most.
    private static void stepsThatFit() {
        due.is("57 spends", Due.with("spend1;".repeat(57)).count(1), 57);
        due.is("56 calls and spends", Due.with("def f{spend1;}" + "call f;".repeat(55)).count(1), 56);
        due.is("57 within one another and beside", Due.with(around(8, "lock1{", "spend1;").repeat(6) + "lock1{spend1;}spend1;").count(1), 57);
        UsedUp x = Due.with("spend1;".repeat(56) + "spend9;");
        due.is("TIME of the 57th too", x.spends(0, 0, 0, 0, 0), 65);
        due.is("57 again in the next TEXT", Due.program(x, "spend1;".repeat(57)), 0);
    }

    private static final String EVERY_TOKEN = "def f { spend 1 ; } def g { call f ; } if a < 2 { call g ; } else { lock 3 { "
        + "hold double b * 2 + c { times 4 { spend d ; } } } }";

    // II. "FAULT: the first TOKEN that can't go on there"
    private static void faultOfEachToken() {
        due.good(EVERY_TOKEN);
        String[] tokens = EVERY_TOKEN.split(" ");
        int place = 0;
        for (String token : tokens) {
            String rest = EVERY_TOKEN.substring(place + token.length());
            due.faultAt(EVERY_TOKEN.substring(0, place) + "%" + rest, place);
            due.faultAt(EVERY_TOKEN.substring(0, place) + "1001" + rest, place);
            due.faultAt(EVERY_TOKEN.substring(0, place) + "zz" + rest, place);
            place += token.length() + 1;
        }
        due.faultAt(EVERY_TOKEN + " %", place);
    }

    // II. "(the end's: the TEXT's length)"
    private static void faultOfTheEnd() {
        int wholeIf = EVERY_TOKEN.indexOf(" else");
        for (int i = 0; i < EVERY_TOKEN.length(); i++) {
            if (EVERY_TOKEN.charAt(i) == ' ' && i != wholeIf) {
                due.faultAt(EVERY_TOKEN.substring(0, i), i);
                due.faultAt(EVERY_TOKEN.substring(0, i + 1), i + 1);
                due.faultAt(EVERY_TOKEN.substring(0, i) + " ".repeat(400 - i), 400);
            }
        }
        due.good(EVERY_TOKEN.substring(0, wholeIf));
        for (int length = 0; length <= 40; length++) {
            due.faultAt(" ".repeat(length), length);
        }
        due.faultAt("spen", 0);
        due.faultAt("spend 1; time", 9);
    }

    // II. "["else" "{" BLOCK "}"]"
    private static void elseBehindIfAlone() {
        String tail = "else{spend 1;}";
        due.good("if a<1{spend 1;}" + tail);
        due.faultAt(tail, 0);
        due.faultAt("spend 1;" + tail, 8);
        due.faultAt("times 1{spend 1;}" + tail, 17);
        due.faultAt("hold 1{spend 1;}" + tail, 16);
        due.faultAt("lock 1{spend 1;}" + tail, 16);
        due.faultAt("if a<1{spend 1;}" + tail + tail, 30);
        due.faultAt("if a<1{spend 1;}spend 1;" + tail, 24);
        due.faultAt("if a<1{" + tail + "}", 7);
        due.faultAt("if a<1{spend 1;}else if a<2{spend 1;}", 21);
        due.good("if a<1{spend 1;}else{if a<2{spend 1;}" + tail + "}");
        due.faultAt("def f{spend 1;}" + tail, 15);
    }

    // II. "{DEF} BLOCK"
    private static void defsAheadAlone() {
        due.faultAt("spend 1;def f{spend 1;}", 8);
        due.faultAt("times 1{spend 1;}def f{spend 1;}", 17);
        due.faultAt("times 1{def f{spend 1;}}", 8);
        due.faultAt("def f{def g{spend 1;}}spend 1;", 6);
        due.faultAt("def f{spend 1;def g{spend 1;}}spend 1;", 14);
        due.is("no DEF", Due.with("spend 1;").count(5), 0);
        UsedUp x = new UsedUp();
        for (int turn = 0; turn < 3; turn++) {
            Due.program(x, "def f{spend 1;}def g{spend 2;}def h{spend 4;}call f;call g;call h;");
            due.is("three DEFS, turn " + turn, x.count(5), 3);
            for (int again = 0; again < turn; again++) {
                due.is("no DEF, turn " + turn, Due.program(x, "spend 1;spend 2;"), 0);
                due.is("no DEF is left, turn " + turn, x.count(5), 0);
                due.is("no STEP is left, turn " + turn, x.count(1), 2);
                due.is("no TIME is left, turn " + turn, x.spends(0, 0, 0, 0, 0), 3);
            }
        }
        for (int turn = 0; turn < 6; turn++) {
            Due.program(x, "spend" + "1+".repeat(196) + (char) ('a' + turn % 4) + ";");
            due.is("the longest AMOUNT, turn " + turn, x.spends(0, 1, 2, 3, 4), 196 + turn % 4 + 1);
        }
    }

    // II. "PLACES are the "times" in the order of the TEXT, 0 .."
    private static void placesInOrder() {
        UsedUp x = Due.with("def f{times 5{spend 1;}}times 7{times 11{spend 1;}}if a<1{times 13{spend 1;}}else{times 17{spend 1;}}times 19{call f;}");
        x.ordinary(0, 0, 0, 0);
        int[] amounts = {5, 7, 11, 13, 17, 19};
        for (int place = 0; place < 6; place++) {
            due.is("AMOUNT of PLACE " + place, x.need(place), amounts[place]);
            due.is("no CAP at first", x.capped(place), -1);
        }
        due.is("no more of them", x.need(6), -1);
    }

    // II. "TURNS of a PLACE: its AMOUNT, no more than its CAP."
    private static void turnsByCap() {
        UsedUp x = Due.with("times a{spend 1;}");
        due.is("without a CAP", x.spends(0, 1000, 0, 0, 0), 2000);
        for (int cap : new int[] {0, 1, 2, 999}) {
            x.cap(0, cap);
            due.is("AMOUNT below CAP " + cap, x.spends(0, Math.max(cap - 1, 0), 0, 0, 0), 2L * Math.max(cap - 1, 0));
            due.is("AMOUNT as CAP " + cap, x.spends(0, cap, 0, 0, 0), 2L * cap);
            due.is("AMOUNT above CAP " + cap, x.spends(0, cap + 1, 0, 0, 0), 2L * cap);
        }
        x.cap(0, -1);
        due.is("without a CAP again", x.spends(0, 1000, 0, 0, 0), 2000);
        UsedUp y = Due.with("times a*1000+b{spend 1;}");
        y.cap(0, 1000000);
        due.is("AMOUNT below the greatest CAP", y.spends(0, 999, 999, 0, 0), 1999998);
        due.is("AMOUNT as the greatest CAP", y.spends(0, 1000, 0, 0, 0), 2000000);
        due.is("AMOUNT above the greatest CAP", y.spends(0, 1000, 1, 0, 0), 2000000);
        UsedUp z = Due.with("times double a{spend 1;}times double a{spend 1;}");
        z.cap(1, 1000000);
        due.is("MUCH is capped as well", z.spends(0, 1000, 0, 0, 0), MUCH);
        z.cap(0, 0);
        due.is("each by its own CAP", z.spends(0, 1000, 0, 0, 0), 2000000);
    }

    // II. "All amounts, sums and products above MUCH (1,000,000,000,000) count as MUCH."
    private static void amountsToMuch() {
        due.is("one below MUCH", time("spend " + ONE_BELOW_MUCH + ";", 0), MUCH - 1);
        due.is("a sum that is MUCH", time("spend " + ONE_BELOW_MUCH + "+1;", 0), MUCH);
        due.is("a sum above MUCH", time("spend " + ONE_BELOW_MUCH + "+2;", 0), MUCH);
        due.is("a product that is MUCH", time("spend " + JUST_MUCH + ";", 0), MUCH);
        due.is("a product above MUCH", time("spend " + JUST_MUCH + "*2;", 0), MUCH);
        due.is("a product just above MUCH", time("spend 1000*1000*1000*77*13;", 0), MUCH);
        due.is("a product just below MUCH", time("spend 1000*1000*1000*27*37;", 0), 999000000000L);
        due.is("a sum of MUCH and MUCH", time("spend " + JUST_MUCH + "+" + JUST_MUCH + ";", 0), MUCH);
        due.is("a product of MUCH and MUCH", time("spend " + JUST_MUCH + "*" + JUST_MUCH + ";", 0), MUCH);
        due.is("MUCH that is a product of many", time("spend " + "1000*".repeat(75) + "1000;", 0), MUCH);
        due.is("MUCH times 0", time("spend " + JUST_MUCH + "*1000*0;", 0), 0);
        due.is("MUCH times 0, and 7", time("spend " + JUST_MUCH + "*1000*0+7;", 0), 7);
        due.is("0 times MUCH", time("spend 0*" + JUST_MUCH + ";", 0), 0);
        due.is("MUCH times a NAME of 0", time("spend " + JUST_MUCH + "*a;", 0), 0);
    }

    // II. ""double" NAME (2 to the NAME; of 0: 1)"
    private static void doubles() {
        UsedUp x = Due.with("spend double a;");
        for (int n = 0; n < 40; n++) {
            due.is("double " + n, x.spends(0, n, 0, 0, 0), 1L << n);
        }
        for (int n = 40; n <= 1000; n++) {
            due.is("double " + n, x.spends(0, n, 0, 0, 0), MUCH);
        }
        due.is("double of 0, in a product", time("spend 3*double a;", 0), 3);
        due.is("double of much, times 0", time("spend double a*0;", 1000), 0);
    }

    // II. MUCH in TIME
    private static void timesToMuch() {
        String below = "spend " + ONE_BELOW_MUCH + ";";
        String much = "spend " + JUST_MUCH + ";";
        due.is("a BLOCK one below", time(below + "spend 0;", 0), MUCH - 1);
        due.is("a BLOCK of MUCH", time(below + "spend 1;", 0), MUCH);
        due.is("a BLOCK above MUCH", time(below + "spend 2;", 0), MUCH);
        due.is("STEPS of MUCH", time(much + much + much, 0), MUCH);
        due.is("a call that comes to MUCH", time("def f{" + below + "}call f;", 0), MUCH);
        due.is("a call above MUCH", time("def f{" + much + "}call f;", 0), MUCH);
        due.is("an if that comes to MUCH", time("if a<1{" + below + "}", 0), MUCH);
        due.is("an if above MUCH", time("if a<1{" + much + "}", 0), MUCH);
        due.is("an else above MUCH", time("if a<0{spend 1;}else{" + much + "}", 0), MUCH);
        due.is("a turn that comes to MUCH", time("times 1{" + below + "}", 0), MUCH);
        due.is("a turn above MUCH", time("times 1{" + much + "}", 0), MUCH);
        due.is("no turn of MUCH", time("times 0{" + much + "}", 0), 0);
        due.is("turns of MUCH", time("times " + JUST_MUCH + "{spend 0;}", 0), MUCH);
        due.is("turns below MUCH", time("times " + ONE_BELOW_MUCH + "{spend 0;}", 0), MUCH - 1);
        due.is("turns of 2 each", time("times 499*1000*1000*1000+999*1000*1000+999*1000+999{spend 1;}", 0), MUCH - 2);
        due.is("hold of MUCH takes no TIME", time("hold " + JUST_MUCH + "{" + below + "}", 0), MUCH - 1);
    }

    // II. MUCH in ROOM
    private static void roomsToMuch() {
        due.is("ROOM one below", room("hold " + ONE_BELOW_MUCH + "{hold 0{spend 1;}}", 0), MUCH - 1);
        due.is("ROOM of MUCH", room("hold " + ONE_BELOW_MUCH + "{hold 1{spend 1;}}", 0), MUCH);
        due.is("ROOM above MUCH", room("hold " + ONE_BELOW_MUCH + "{hold 2{spend 1;}}", 0), MUCH);
        due.is("ROOM of MUCH in MUCH", room("hold " + JUST_MUCH + "{hold " + JUST_MUCH + "{spend 1;}}", 0), MUCH);
        due.is("ROOM of MUCH beside MUCH", room("hold " + JUST_MUCH + "{spend 1;}hold " + JUST_MUCH + "{spend 1;}", 0), MUCH);
        due.is("ROOM below MUCH beside it", room("hold 3{spend 1;}hold " + ONE_BELOW_MUCH + "{spend 1;}hold 5{spend 1;}", 0), MUCH - 1);
    }

    // II. "TIME of an ASK: spend: AMOUNT; times: TURNS times (the TIME of its BLOCK, and 1); hold, lock: .. ; call: .. ; if: .."
    private static void timeOfEachStep() {
        due.is("spend 0", time("spend 0;", 0), 0);
        due.is("spend 1", time("spend 1;", 0), 1);
        due.is("times 0", time("times 0{spend 5;}", 0), 0);
        due.is("times 1 of nothing", time("times 1{spend 0;}", 0), 1);
        due.is("times 2 of 5", time("times 2{spend 5;}", 0), 12);
        due.is("hold 0", time("hold 0{spend 5;}", 0), 5);
        due.is("hold 9", time("hold 9{spend 5;}", 0), 5);
        due.is("lock 0", time("lock 0{spend 5;}", 0), 5);
        due.is("call of nothing", time("def f{spend 0;}call f;", 0), 1);
        due.is("call of 5", time("def f{spend 5;}call f;", 0), 6);
        due.is("DEFS that are not called", time("def f{spend 5;}spend 0;", 0), 0);
        due.is("if", time("if a<1{spend 5;}", 0), 6);
        due.is("if of nothing", time("if a<1{spend 0;}", 0), 1);
        due.is("if none", time("if a<0{spend 5;}", 0), 1);
        due.is("else", time("if a<0{spend 5;}else{spend 7;}", 0), 8);
        due.is("if, not the else", time("if a<1{spend 5;}else{spend 7;}", 0), 6);
        due.is("the sum of the STEPS", time("spend 1;spend 10;spend 100;", 0), 111);
    }

    // II. ""if" NAME "<" NUMBER"
    private static void ifBelow() {
        for (int number : new int[] {0, 1, 2, 5, 999, 1000}) {
            UsedUp x = Due.with("if a<" + number + "{spend 10;}else{spend 20;}");
            due.is("number " + number + " itself", x.spends(0, number, 0, 0, 0), 21);
            if (number > 0) {
                due.is("one below " + number, x.spends(0, number - 1, 0, 0, 0), 11);
                due.is("0 below " + number, x.spends(0, 0, 0, 0, 0), 11);
            }
            due.is("1000 and " + number, x.spends(0, 1000, 0, 0, 0), 21);
        }
        for (int k = 0; k < 4; k++) {
            UsedUp x = Due.with("if " + NAMES.charAt(k) + "<4{spend 10;}");
            due.is("if of NAME " + k, x.spends(0, k == 0 ? 3 : 4, k == 1 ? 3 : 4, k == 2 ? 3 : 4, k == 3 ? 3 : 4), 11);
            due.is("if not of NAME " + k, x.spends(0, k == 0 ? 4 : 3, k == 1 ? 4 : 3, k == 2 ? 4 : 3, k == 3 ? 4 : 3), 1);
        }
    }

    // II. "ROOM: hold: AMOUNT and ROOM of its BLOCK; else the greatest ROOM of what is gone into (.. of times with 0 TURNS, and of spend, 0)."
    private static void roomOfEachStep() {
        due.is("ROOM of spend", room("spend 9;", 0), 0);
        due.is("ROOM of hold 0", room("hold 0{spend 9;}", 0), 0);
        due.is("ROOM of hold 1", room("hold 1{spend 9;}", 0), 1);
        due.is("ROOM of hold in hold", room("hold 1{hold 10{hold 100{spend 1;}}}", 0), 111);
        due.is("ROOM of hold 0 around", room("hold 0{hold 10{spend 1;}}", 0), 10);
        String three = "times a{hold 3{spend 1;}}";
        due.is("ROOM of 0 TURNS", room(three, 0), 0);
        due.is("ROOM of 1 TURN", room(three, 1), 3);
        due.is("ROOM of 1000 TURNS", room(three, 1000), 3);
        UsedUp x = Due.with(three);
        x.cap(0, 0);
        due.is("ROOM of 0 TURNS by a CAP", x.spends(1, 1000, 0, 0, 0), 0);
        x.cap(0, 1);
        due.is("ROOM of 1 TURN by a CAP", x.spends(1, 1000, 0, 0, 0), 3);
        due.is("ROOM of hold around 0 TURNS", room("hold 5{" + three + "}", 0), 5);
        due.is("ROOM of a BLOCK: the first", room("hold 3{spend 1;}hold 2{spend 1;}hold 1{spend 1;}", 0), 3);
        due.is("ROOM of a BLOCK: the last", room("hold 1{spend 1;}hold 2{spend 1;}hold 3{spend 1;}", 0), 3);
        due.is("ROOM of a BLOCK within", room("hold 7{hold 1{spend 1;}hold 3{spend 1;}hold 2{spend 1;}}", 0), 10);
        due.is("ROOM of lock", room("lock 7{hold 3{spend 1;}}", 0), 3);
        due.is("ROOM of call", room("def f{hold 3{spend 1;}}call f;", 0), 3);
        due.is("ROOM of a DEF that is not called", room("def f{hold 3{spend 1;}}spend 1;", 0), 0);
        String choice = "if a<2{hold 3{spend 1;}}else{hold 4{spend 1;}}";
        due.is("ROOM of if", room(choice, 1), 3);
        due.is("ROOM of else", room(choice, 2), 4);
        due.is("ROOM of if none", room("if a<2{hold 3{spend 1;}}", 2), 0);
    }

    // III. "with a WEIGHT of w at most: the ASK that brings most"
    private static void worstOfAtMost() {
        UsedUp x = Due.with("spend a;");
        x.name(0, 5, 3);
        for (int w = 0; w <= 16; w++) {
            due.is("most with " + w, x.worst(0, w), Math.min(w / 3, 5));
            due.is("its ASK with " + w, x.ask(0), Math.min(w / 3, 5));
        }
        due.is("most with all", x.worst(0, Integer.MAX_VALUE), 5);
        x.name(0, 5, 0);
        due.is("most without WEIGHT", x.worst(0, 0), 5);
        UsedUp y = Due.with("spend 0;");
        due.is("nothing is the most", y.worst(0, 0), 0);
        due.is("nothing is the most ROOM", y.worst(1, 9), 0);
        due.latest("the ASK of nothing", y, 0, 0, 0, 0);
    }

    // III. "of alike ones the lightest, then the first"
    private static void worstOfAlike() {
        UsedUp x = Due.with("spend 3;if a<1{spend 0;}else{if b<1{spend 0;}}");
        x.name(0, 5, 1);
        due.is("alike in most", x.worst(0, 99), 5);
        due.latest("the lightest, then the first", x, 1, 0, 0, 0);
        // a = 1 comes behind b = 1, and is lighter: the lightest goes ahead of the first.
        UsedUp y = Due.with("spend 5*a+5*b;");
        y.name(0, 1, 2);
        y.name(1, 1, 3);
        due.is("one of either", y.worst(0, 4), 5);
        due.latest("the lightest goes ahead", y, 1, 0, 0, 0);
        y.name(0, 1, 3);
        due.is("one of either, alike in WEIGHT", y.worst(0, 4), 5);
        due.latest("the first of as light ones", y, 0, 1, 0, 0);
        y.name(0, 1, 4);
        due.is("one of either, the first is lighter", y.worst(0, 4), 5);
        due.latest("the first, which is lighter", y, 0, 1, 0, 0);
        // All above MUCH are alike.
        UsedUp z = Due.with("spend double a*" + JUST_MUCH + ";");
        due.is("alike at MUCH", z.worst(0, 99), MUCH);
        due.latest("the lightest at MUCH", z, 0, 0, 0, 0);
        // Lighter ones that come later, one behind the other.
        UsedUp v = Due.with("if a<1{if b<1{spend 0;}else{spend 1;}}else{spend 2;}");
        v.name(1, 5, 9);
        v.name(0, 5, 2);
        due.is("the lightest of many", v.worst(0, 99), 3);
        due.latest("the lightest of many", v, 1, 0, 0, 0);
    }

    // III. "CHEAPEST that brings at least s: the lightest"
    private static void cheapestOfAtLeast() {
        UsedUp x = Due.with("spend 10*a;");
        x.name(0, 5, 4);
        for (int s = 0; s <= 50; s++) {
            due.is("at least " + s, x.cheapest(0, s), (s + 9) / 10 * 4);
            due.is("its ASK of " + s, x.ask(0), (s + 9) / 10);
        }
        due.is("at least 51", x.cheapest(0, 51), -6);
        due.is("at least 51, status", x.status(), -6);
        due.is("the ASK stays", x.ask(0), 5);
        UsedUp y = Due.with("spend 9; hold 10*a{spend 1;}");
        due.is("at least 50 ROOM", y.cheapest(1, 50), 5);
        due.is("at least 51 ROOM", y.cheapest(1, 51), -6);
        due.is("at least 10 ROOM", y.cheapest(1, 10), 1);
        due.is("at least 11 ROOM", y.cheapest(1, 11), 2);
    }

    // III. "of alike ones the first"
    private static void cheapestOfAlike() {
        UsedUp x = Due.with("spend a+b+c+d;");
        due.is("alike in WEIGHT", x.cheapest(0, 2), 2);
        due.latest("the first", x, 0, 0, 0, 2);
        // The heavier one brings more and comes ahead; the lightest is meant.
        UsedUp y = Due.with("spend 9*b+5*a;");
        y.name(1, 5, 8);
        due.is("the lightest", y.cheapest(0, 5), 1);
        due.latest("the lightest, though another is first", y, 1, 0, 0, 0);
        // The first of alike, though a later one brings more.
        UsedUp z = Due.with("spend 5*b+9*a;");
        due.is("alike, the later brings more", z.cheapest(0, 5), 1);
        due.latest("the first, though another brings more", z, 0, 1, 0, 0);
        // The least that is brought by all.
        UsedUp v = Due.with("spend 4;");
        due.is("what every ASK brings", v.cheapest(0, 4), 0);
        due.latest("the first of all", v, 0, 0, 0, 0);
        due.is("what none brings", v.cheapest(0, 5), -6);
    }

    // III. "for each PLACE the TIME of all its TURNS, over all times that it is come to (.. turns around it, and calls ..)"
    private static void whereOverAll() {
        UsedUp x = Due.with("def f{times 2{spend 3;}}times 5{times 7{call f;call f;}}call f;if a<1{times 1{spend 1;}}else{times 9{spend 1;}}"
            + "times 0{times 6{spend 1;}}");
        x.worst(0, 0);
        due.is("a PLACE that calls come to", x.where(0), (5 * 7 * 2 + 1) * 8);
        due.is("a PLACE with turns around it and within", x.where(2), 5 * 7 * (2 * 9 + 1));
        due.is("a PLACE around", x.where(1), 5 * (7 * 19 + 1));
        due.is("a PLACE that is gone into", x.where(3), 2);
        due.is("a PLACE that is not gone into", x.where(4), 0);
        due.is("a PLACE of 0 TURNS", x.where(5), 0);
        due.is("a PLACE in 0 TURNS", x.where(6), 0);
        x.cap(1, 0);
        due.is("a PLACE that one call comes to", x.where(0), 8);
        due.is("a PLACE in turns that are capped away", x.where(2), 0);
        x.cap(0, 1);
        due.is("one TURN", x.where(0), 4);
        Due.program(x, "def f{times 2{spend 0;}}call f;if a<0{call f;}else{spend 1;}if a<1{spend 1;}else{call f;}");
        due.is("calls of a branch that is not gone into", x.where(0), 2);
        UsedUp y = Due.with("def f{times 2{spend 0;}}def g{call f;call f;}def h{call g;call g;call f;}spend 1;");
        y.worst(0, 0);
        due.is("DEFS that are not called", y.where(0), 0);
        Due.program(y, "def f{times 2{spend 0;}}def g{call f;call f;}def h{call g;call g;call f;}call h;call g;");
        due.is("calls of calls", y.where(0), 7 * 2);
    }

    // III. MUCH in WHERE
    private static void whereToMuch() {
        String half = "times 499*1000*1000*1000+999*1000*1000+999*1000+999{spend 0;}";
        UsedUp x = Due.with("def f{" + half + "}call f;call f;");
        x.worst(0, 0);
        due.is("two of a half, less 2", x.where(0), MUCH - 2);
        Due.program(x, "def f{" + half + "}call f;call f;call f;");
        due.is("three of a half", x.where(0), MUCH);
        Due.program(x, "times " + JUST_MUCH + "{times " + JUST_MUCH + "{times 0{spend 1;}times 1{spend 1;}}}");
        due.is("MUCH of MUCH", x.where(1), MUCH);
        due.is("0 TURNS, MUCH times", x.where(2), 0);
        due.is("1 TURN, MUCH times", x.where(3), MUCH);
        // 10,001 times 99,990,001 is one above MUCH.
        Due.program(x, "times 73*137{spend 99*1000*1000+990*1000;}");
        due.is("a product of one above MUCH", x.where(0), MUCH);
        Due.program(x, "times 73*137{times 99*1000*1000+990*1000+1{spend 0;}}");
        due.is("a product of one above MUCH, within", x.where(1), MUCH);
    }

    // IV. "ORDINARY asks, 12 at most."
    private static void ordinaryAsks() {
        UsedUp x = Due.with("times a{spend 1;}times b{spend 1;}times c{spend 1;}times d{spend 1;}");
        for (int i = 1; i <= 12; i++) {
            due.is("ORDINARY ask " + i, x.ordinary(i, 2 * i, 3 * i, 4 * i), i);
            due.is("ORDINARY ask " + i + ", status", x.status(), 0);
        }
        due.is("a thirteenth", x.ordinary(1000, 1000, 1000, 1000), -5);
        due.is("a thirteenth, status", x.status(), -5);
        due.is("twelve still", x.count(2), 12);
        for (int place = 0; place < 4; place++) {
            due.is("NEED by the twelfth, not the thirteenth", x.need(place), 12 * (place + 1));
        }
    }

    // IV. "the greatest AMOUNT of it for an ORDINARY ask (0 without any), whether it is come to or not"
    private static void needs() {
        UsedUp x = Due.with("def f{times 7{spend 1;}}if a<0{times a+b{spend 1;}}times 0{times a*b{spend 1;}}times 0{spend 1;}");
        for (int place = 0; place < 5; place++) {
            due.is("NEED without any", x.need(place), 0);
        }
        x.ordinary(0, 0, 0, 0);
        long[] once = {7, 0, 0, 0, 0};
        for (int place = 0; place < 5; place++) {
            due.is("NEED by an ASK of 0", x.need(place), once[place]);
        }
        x.ordinary(3, 5, 0, 0);
        x.ordinary(2, 7, 0, 0);
        long[] most = {7, 9, 0, 15, 0};
        for (int place = 0; place < 5; place++) {
            due.is("the greatest NEED", x.need(place), most[place]);
        }
        UsedUp y = Due.with("times " + JUST_MUCH + "+a{spend 1;}times " + ONE_BELOW_MUCH + "{spend 1;}");
        y.ordinary(5, 0, 0, 0);
        due.is("NEED above MUCH", y.need(0), MUCH);
        due.is("NEED one below MUCH", y.need(1), MUCH - 1);
    }

    // IV. "the fewest PLACES that, with CAPS of their NEEDS there, and none elsewhere, make no ASK's TIME above it"
    private static void budgetsOfTheFewest() {
        UsedUp x = Due.with("times a{spend 0;}times a{spend 0;}times a{spend 0;}times a{spend 1;}");
        x.ordinary(1, 0, 0, 0);
        // The most is 5 + 5 + 5 + 10; a CAP of 1 takes 4 of it, at the last 8.
        int[] bounds = {25, 24, 17, 16, 13, 12, 9, 8, 5};
        int[] fewest = {0, 1, 1, 2, 2, 3, 3, 4, 4};
        for (int i = 0; i < bounds.length; i++) {
            due.is("fewest for " + bounds[i], x.budgets(bounds[i]), fewest[i]);
            due.is("as many CAPS for " + bounds[i], x.count(3), fewest[i]);
            due.that("no ASK above " + bounds[i], x.worst(0, 999) <= bounds[i]);
        }
        due.is("not even with all", x.budgets(4), -6);
        due.is("not even with all, status", x.status(), -6);
        due.is("CAPS stay", x.count(3), 4);
        due.is("none at all are the fewest", x.budgets(25), 0);
        due.is("no CAPS elsewhere", x.count(3), 0);
        UsedUp y = Due.with("spend 7;");
        due.is("no PLACE, a bound of its TIME", y.budgets(7), 0);
        due.is("no PLACE, a bound below", y.budgets(6), -6);
    }

    // IV. "of those the first as rows of numbers"
    private static void budgetsOfTheFirst() {
        UsedUp x = Due.with("times 1{spend 0;}times 3{spend 0;}times 2{spend 0;}times 3{spend 0;}times 1{spend 0;}times 2{spend 0;}");
        // The most is 12. Without ORDINARY asks a PLACE that is chosen takes its whole AMOUNT away.
        int[][] rows = {{11, 0}, {10, 1}, {9, 1}, {8, 0, 1}, {7, 1, 2}, {6, 1, 3}, {5, 0, 1, 3}, {4, 1, 2, 3}, {3, 0, 1, 2, 3}, {2, 1, 2, 3, 5},
            {1, 0, 1, 2, 3, 5}, {0, 0, 1, 2, 3, 4, 5}};
        for (int[] row : rows) {
            due.is("how many for " + row[0], x.budgets(row[0]), row.length - 1);
            for (int place = 0; place < 6; place++) {
                int want = -1;
                for (int i = 1; i < row.length; i++) {
                    want = row[i] == place ? 0 : want;
                }
                due.is("for " + row[0] + " the CAP of " + place, x.capped(place), want);
            }
        }
    }

    // IV. "make no ASK's TIME above it": of ASKS within SIZE, whatever they weigh
    private static void budgetsOverAllAsks() {
        UsedUp x = Due.with("times a*b*c*d{spend 0;}");
        for (int k = 0; k < 4; k++) {
            x.name(k, 5, 9);
        }
        due.is("the last ASK is within", x.budgets(625), 0);
        due.is("the last ASK alone is above", x.budgets(624), 1);
        due.is("its CAP", x.capped(0), 0);
        x.name(3, 4, 0);
        due.is("within a lesser SIZE", x.budgets(500), 0);
        due.is("above within a lesser SIZE", x.budgets(499), 1);
        UsedUp y = Due.with("if a<1{if b<1{if c<1{if d<1{spend 40;}}}}");
        due.is("the first ASK is within", y.budgets(44), 0);
        due.is("the first ASK alone is above", y.budgets(43), -6);
        UsedUp z = Due.with("times a{spend 0;}");
        z.ordinary(1000, 0, 0, 0);
        due.is("a NEED above what any ASK has", z.budgets(4), -6);
        due.is("a NEED above what any ASK has, but enough", z.budgets(5), 0);
        // Without CAPS every ASK is above, with the first CAP the last ASK alone.
        UsedUp all = Due.with("times 1000{spend 0;}times a*b*c*d{spend 0;}");
        due.is("all are above, at last one", all.budgets(624), 2);
        due.is("all are above, at last none", all.budgets(625), 1);
        UsedUp first = Due.with("times 1000{spend 0;}if a<1{if b<1{if c<1{if d<1{times 9{spend 0;}}}}}");
        due.is("all are above, at last the first", first.budgets(12), 2);
        due.is("all are above, at last not the first", first.budgets(13), 1);
    }

    // IV. "make no ASK's TIME above it": each choice of PLACES by all ASKS, also by those that an earlier choice kept below.
    private static void budgetsOverAllChoices() {
        UsedUp x = Due.with("if a<1{times 9*b{spend 0;}}else{if b<1{times 9*a{spend 0;}}}");
        x.name(0, 1, 1);
        x.name(1, 1, 1);
        due.is("one PLACE is not enough, neither", x.budgets(5), 2);
        due.is("the one is enough", x.budgets(10), 1);
        due.is("it is the second", x.capped(1), 0);
        UsedUp eight = Due.with("times a{spend 0;}times 2*a{spend 0;}times 3*a{spend 0;}times 4*a{spend 0;}"
            + "times 5*a{spend 0;}times 6*a{spend 0;}times 7*a{spend 0;}times 8*a{spend 0;}");
        eight.ordinary(2, 0, 0, 0);
        due.is("all eight", eight.budgets(72), 8);
        for (int place = 0; place < 8; place++) {
            due.is("NEED of eight as a CAP", eight.capped(place), 2 * (place + 1));
        }
        due.is("seven of eight", eight.budgets(75), 7);
        due.is("not the first", eight.capped(0), -1);
        due.is("the last", eight.capped(7), 16);
        // Whatever budgets were asked for before.
        UsedUp z = Due.with("times a+b+c+d{spend 0;}");
        for (int i = 0; i < 4; i++) {
            due.is("all ASKS but one are above", z.budgets(0), 1);
        }
        Due.program(z, "if a<1{if b<1{if c<1{if d<1{times 9{spend 0;}}}}}");
        due.is("then the one alone", z.budgets(12), 1);
        due.is("then none", z.budgets(13), 0);
    }

    // IV. "(A NEED above 1,000,000 can be no CAP.)"
    private static void budgetsOfGreatNeeds() {
        UsedUp x = Due.with("times a*b+c{spend 0;}times 2*d{spend 0;}");
        x.name(0, 0, 1);
        x.name(1, 0, 1);
        x.name(2, 5, 1);
        x.ordinary(1000, 1000, 0, 0);
        due.is("a NEED of 1,000,000", x.need(0), 1000000);
        due.is("it is no help", x.budgets(14), 1);
        due.is("so the other is taken", x.capped(1), 0);
        due.is("the first stays free", x.capped(0), -1);
        UsedUp y = Due.with("times 1000*1000*b+a*b*c+d{spend 0;}");
        y.ordinary(0, 1, 0, 0);
        y.name(0, 0, 1);
        due.is("a NEED of 1,000,000 as a CAP", y.budgets(1000000), 1);
        due.is("the greatest CAP", y.capped(0), 1000000);
        y.ordinary(0, 1, 0, 1);
        due.is("a NEED of 1,000,001", y.need(0), 1000001);
        due.is("can be no CAP, though the bound be higher", y.budgets(1000001), -6);
        due.is("nor with more", y.budgets(4999999), -6);
        due.is("the CAP stays", y.capped(0), 1000000);
        due.is("without any CAP", y.budgets(5000005), 0);
        due.is("none is left", y.capped(0), -1);
        UsedUp z = Due.with("times double a{spend 0;}times b{spend 0;}");
        z.ordinary(1000, 0, 0, 0);
        due.is("a NEED of MUCH", z.need(0), MUCH);
        due.is("others can be CAPS", z.budgets(32), 1);
        due.is("the other's", z.capped(1), 0);
        due.is("not the one of MUCH", z.capped(0), -1);
        due.is("not even with all that can", z.budgets(31), -6);
        due.is("the other's stays", z.capped(1), 0);
    }

    // V. "l is HELD AHEAD of m, if a "lock" m is come to (by any branch ..) within a "lock" l, l unlike m"
    private static void heldAhead() {
        UsedUp x = Due.with("lock 0{lock 7{spend 1;}}");
        due.is("0 ahead of 7", x.ahead(0, 7), 1);
        due.is("not 7 of 0", x.ahead(7, 0), 0);
        Due.program(x, "lock 7{lock 0{spend 1;}}");
        due.is("7 ahead of 0", x.ahead(7, 0), 1);
        due.is("not 0 of 7", x.ahead(0, 7), 0);
        Due.program(x, "lock 3{lock 3{lock 4{lock 3{spend 1;}}}}");
        due.is("none ahead of itself", x.ahead(3, 3), 0);
        due.is("nor the one between", x.ahead(4, 4), 0);
        due.is("3 ahead of 4", x.ahead(3, 4), 1);
        due.is("4 ahead of 3", x.ahead(4, 3), 1);
        for (int l = 0; l < 8; l++) {
            Due.program(x, "lock " + l + "{lock " + l + "{spend 1;}}");
            for (int m = 0; m < 8; m++) {
                due.is("of itself alone: " + l + " " + m, x.ahead(l, m), 0);
            }
        }
        Due.program(x, "lock 0{hold 1{times 1{if a<0{lock 1{spend 1;}}else{lock 2{spend 1;}}}}}lock 3{if a<1000{spend 1;}else{lock 4{spend 1;}}}");
        int[][] held = {{0, 1}, {0, 2}, {3, 4}};
        for (int[] pair : held) {
            due.is("by any branch " + pair[0] + " " + pair[1], x.ahead(pair[0], pair[1]), 1);
        }
        due.is("branches beside one another", x.ahead(1, 2), 0);
        due.is("STEPS beside one another", x.ahead(0, 3), 0);
        Due.program(x, "times 1{times 2{if a<5{hold 6{times 3{lock 7{spend 1;}}}}else{lock 4{spend 1;}}}}");
        for (int l = 0; l < 8; l++) {
            due.is("within no lock " + l, x.ahead(l, 7) + x.ahead(l, 4), 0);
        }
        Due.program(x, around(7, "lock 5{", "lock 6{spend 1;}"));
        due.is("the eighth within the first", x.ahead(5, 6), 1);
        Due.program(x, "lock 0{lock 1{lock 2{lock 3{lock 4{lock 5{lock 6{lock 7{spend 1;}}}}}}}}");
        for (int l = 0; l < 8; l++) {
            for (int m = 0; m < 8; m++) {
                due.is("eight within one another " + l + " " + m, x.ahead(l, m), l < m ? 1 : 0);
            }
        }
    }

    // V. "any call; DEFS that are not called too, by themselves"
    private static void heldAheadByCalls() {
        UsedUp x = Due.with("def f{lock 1{spend 1;}}def g{call f;}def h{lock 2{call g;}}lock 0{call g;}");
        due.is("by a call of a call", x.ahead(0, 1), 1);
        due.is("in a DEF that is not called", x.ahead(2, 1), 1);
        due.is("not by a DEF that is not called there", x.ahead(0, 2), 0);
        Due.program(x, "def f{lock 1{spend 1;}lock 2{spend 1;}}lock 0{spend 1;}call f;");
        due.is("a call beside", x.ahead(0, 1), 0);
        due.is("beside one another in a DEF", x.ahead(1, 2), 0);
        Due.program(x, "def f{lock 1{spend 1;}}def g{lock 2{spend 1;}}lock 3{if a<1{call f;}else{call g;}}");
        due.is("a call of the first branch", x.ahead(3, 1), 1);
        due.is("a call of the other", x.ahead(3, 2), 1);
        Due.program(x, "def f{lock 1{spend 1;}}def g{spend 1;}lock 0{call g;}");
        due.is("a DEF ahead that is not called there", x.ahead(0, 1), 0);
        Due.program(x, "def f{lock 1{spend 1;}}def g{spend 1;}def h{lock 2{call g;}}lock 0{call h;}");
        due.is("nor by a call of another", x.ahead(0, 1) + x.ahead(2, 1), 0);
        Due.program(x, "def f{lock 6{spend 1;}}lock 0{" + around(7, "lock 5{", "call f;") + "}");
        due.is("a call within eight", x.ahead(0, 6), 1);
        Due.program(x, "def f{lock 1{lock 2{spend 1;}}}def g{lock 3{call f;}}def k{lock 4{call g;}}spend 1;");
        int[][] held = {{1, 2}, {3, 1}, {3, 2}, {4, 3}, {4, 1}, {4, 2}};
        int found = 0;
        for (int l = 0; l < 8; l++) {
            for (int m = 0; m < 8; m++) {
                found += x.ahead(l, m);
            }
        }
        due.is("as many as there are", found, held.length);
        for (int[] pair : held) {
            due.is("DEFS by themselves " + pair[0] + " " + pair[1], x.ahead(pair[0], pair[1]), 1);
        }
    }

    // V. "TANGLED: locks that are led back to themselves by HELD AHEAD."
    private static void tangledLocks() {
        for (int l = 0; l < 8; l++) {
            due.is("itself alone " + l, Due.with("lock " + l + "{lock " + l + "{spend 1;}}").tangled(), 0);
            int m = (l + 3) % 8;
            due.is("one way " + l, Due.with("lock " + l + "{lock " + m + "{spend 1;}}").tangled(), 0);
            due.is("there and back " + l, Due.with("lock " + l + "{lock " + m + "{lock " + l + "{spend 1;}}}").tangled(), 1 << l | 1 << m);
        }
        StringBuilder up = new StringBuilder();
        StringBuilder down = new StringBuilder();
        for (int l = 0; l < 8; l++) {
            up.append("lock ").append(l).append("{lock ").append((l + 1) % 8).append("{spend 1;}}");
            down.append("lock ").append((l + 1) % 8).append("{lock ").append(l).append("{spend 1;}}");
        }
        due.is("all eight, upwards", Due.with(up.toString()).tangled(), 255);
        due.is("all eight, downwards", Due.with(down.toString()).tangled(), 255);
        String open = up.substring(0, up.length() - "lock 7{lock 0{spend 1;}}".length());
        due.is("a row of eight that does not close", Due.with(open).tangled(), 0);
        due.is("what leads in and out is not", Due.with("lock 0{lock 1{lock 2{lock 1{lock 3{spend 1;}}}}}").tangled(), 6);
        due.is("two apart", Due.with("lock 0{lock 5{lock 0{spend 1;}}}lock 3{lock 6{lock 3{spend 1;}}}").tangled(), 1 + 8 + 32 + 64);
        due.is("by a DEF that is not called", Due.with("def f{lock 1{lock 0{spend 1;}}}lock 0{lock 1{spend 1;}}").tangled(), 3);
        due.is("by a call", Due.with("def f{lock 0{spend 1;}}lock 0{lock 1{call f;}}").tangled(), 3);
    }
}
