import java.util.List;

/** ==== 2, the text, and promises 2, 9 and 10: the tape's ends, what may stand where, and too much of it. */
public final class BoundPlanTest {
    private static final String NUMBER = "2";
    private static final List<String> NAMES =
        List.of("low", "high", "span", "falls", "last", "broke", "one", "two", "three");
    private static final List<String> COMPARISONS = List.of("<", "<=", "=", "<>", ">=", ">");
    private static final List<String> ARITHMETIC = List.of("+", "-", "*", "/");
    private static final List<String> OTHERS = List.of("if", "fall", "stop", "or", "and", "not", "(", ")", ";",
        NUMBER, "x", "lo", "lows", "iff", "!", "L", "\t", "\r", "\u0000", "\u007f", "\u0080", "\u00a0", "\u00ff", ",", ":", "#", "`", "{");

    /** "Twenty bytes come behind the TAPE, four of each number, the highest first". */
    private static void bytesOfNumbers() {
        for (int i = 0; i < 20; i++) {
            HighFall x = new HighFall();
            int[] number = new int[5];
            for (int j = 0; j < 20; j++) number[j / 4] = number[j / 4] << 8 | (j == i ? 255 : 32);
            Due.due("feed", x.feed(number[0], number[1], number[2], number[3], number[4]), 20);
            Due.due("byte " + i + " is no token", x.plan(20), -1);
            Due.due("its place", x.fault(1), i);
        }
        HighFall x = new HighFall();
        x.feed(0x20202020, 0x20202020, 0x20202020, 0x20202020, 0x73746f70);
        Due.due("behind what was", x.feed(0x20313b20, 0x20202020, 0x20202020, 0x20202020, 0x20202020), 40);
        Due.due("a text over both", x.plan(40), 1);
    }

    /** "NONE, and none come, if it would have more than 400." */
    private static void fullTape() {
        HighFall x = new HighFall();
        for (int i = 1; i <= 19; i++) Due.feed(x, " ");
        Due.due("400 are not more than 400", Due.feed(x, "stop 1;"), 400);
        for (int i = 0; i < 3; i++) Due.due("420 are", Due.feed(x, "!"), -1);
        Due.due("not so many came", x.plan(401), -2);
        Due.due("what was there is as it was", x.plan(400), 1);
        Due.due("room again behind plan()", Due.feed(x, "!"), 20);
    }

    /** "-2, and the TAPE stays: there are not so many, n is below 0." */
    private static void toldLengths() {
        HighFall x = new HighFall();
        Due.due("an empty tape has 0", x.plan(0), 0);
        Due.due("and not 1", x.plan(1), -2);
        Due.feed(x, "stop 7;");
        for (int n : Due.beyond(0, 20)) Due.due("plan " + n, x.plan(n), -2);
        Due.due("the plan of no lines stays", x.count(1), 0);
        Due.due("the tape stays", x.plan(20), 1);
        Due.due("as it was", x.tried(0, 4), 7);
        Due.due("the tape is empty then", x.plan(1), -2);
        Due.feed(x, "stop 8;stop 9;");
        Due.due("its first bytes alone", x.plan(7), 1);
        Due.due("are the plan", x.tried(0, 4), 8);
        Due.due("the rest is gone", x.plan(1), -2);
        Due.feed(x, "stop 8;");
        Due.due("a fault", x.plan(6), -1);
        Due.due("empties it, too", x.plan(1), -2);
        Due.feed(x, "stop 9;");
        Due.due("plan(0)", x.plan(0), 0);
        Due.due("empties it, too", x.plan(1), -2);
    }

    /** "NONE with a FAULT, the one ahead stays". */
    private static void planAhead() {
        HighFall x = new HighFall();
        Due.due("a fault", Due.plan(x, "stop 1;stop"), -1);
        Due.due("leaves no plan", x.tried(0, 0), -2);
        Due.due("and no lines", x.count(1), 0);
        Due.due("nor knots", x.count(2), 0);
        Due.plan(x, "stop low+3;");
        Due.due("a fault behind lines", Due.plan(x, "stop 1;stop 2;stop 3;stop 4;!"), -1);
        Due.due("leaves the lines", x.count(1), 1);
        Due.due("the knots", x.count(2), 3);
        Due.due("and the plan", x.tried(0, 4), 3);
        Due.due("another fault", Due.plan(x, "fall 0 1;if"), -1);
        Due.due("leaves it again", x.tried(0, 4), 3);
    }

    /** "Of the latest plan() that was not -2, what 0: its FAULT (0), 1: its place (NONE without). NONE for another what." */
    private static void latestFault() {
        HighFall x = new HighFall();
        Due.due("none at first", x.fault(0), 0);
        Due.due("no place at first", x.fault(1), -1);
        Due.plan(x, " stop 1000;");
        Due.due("too much", x.fault(0), 2);
        Due.due("its place", x.fault(1), 6);
        for (int what : Due.beyond(0, 1)) Due.due("fault " + what, x.fault(what), -1);
        x.plan(1);
        x.plan(-1);
        Due.due("-2 leaves it", x.fault(0), 2);
        Due.due("and its place", x.fault(1), 6);
        x.stair(3);
        Due.due("and so does a stair", x.fault(1), 6);
        Due.plan(x, "!");
        Due.due("another one", x.fault(0), 1);
        Due.due("at 0", x.fault(1), 0);
        Due.plan(x, "stop 1;");
        Due.due("none with a right text", x.fault(0), 0);
        Due.due("no place", x.fault(1), -1);
    }

    private static boolean isOne(String token, String allowed) {
        for (String sort : allowed.split(" ")) {
            if (sort.equals(token) || sort.equals("NAME") && NAMES.contains(token)
                    || sort.equals("CMP") && COMPARISONS.contains(token)
                    || sort.equals("SUM") && ARITHMETIC.contains(token)) return true;
        }
        return false;
    }

    /** "1 a TOKEN that is none (another word, too) or can't stand there": each TOKEN behind each beginning. */
    private static void mayStand(String beginning, String allowed) {
        for (List<String> some : List.of(NAMES, COMPARISONS, ARITHMETIC, OTHERS)) {
            for (String token : some) {
                String text = beginning + " " + token;
                HighFall x = new HighFall();
                int lines = Due.plan(x, text);
                if (isOne(token, allowed)) {
                    // then nothing is wrong, or something is still to come
                    Due.due("<" + text + "> goes on", lines >= 0 || x.fault(1) == text.length(), true);
                } else {
                    Due.due("<" + text + "> has a fault", x.fault(0), 1);
                    Due.due("<" + text + "> has it at its last token", x.fault(1), beginning.length() + 1);
                }
            }
        }
        boolean whole = isOne("END", allowed);
        HighFall x = new HighFall();
        Due.due("<" + beginning + "> is whole", Due.plan(x, beginning) >= 0, whole);
        Due.due("<" + beginning + "> ends too soon", x.fault(1), whole ? -1 : beginning.length());
    }

    private static void tokens() {
        String operand = "not ( NAME " + NUMBER;
        String factor = "( NAME " + NUMBER;
        String sums = " or and SUM";
        for (String start : new String[] {"", "stop low;", "fall 0 low;", "if 1 stop 2;"}) mayStand(start, "if fall stop END");
        for (String start : new String[] {"if", "stop", "fall 0", "if low stop", "if low fall 2"}) mayStand(start, operand);
        mayStand("fall", NUMBER);
        mayStand("if low fall", NUMBER);
        for (String deed : new String[] {"if ", "stop ", "fall 1 "}) {
            String end = deed.equals("if ") ? " fall stop" : " ;";
            for (String before : new String[] {"not", "low or", "low and", "1<2 and", "(", "low+(", "not not", "3 < ("}) {
                mayStand(deed + before, operand);
            }
            for (String before : new String[] {"low <", "low <=", "low =", "low <>", "low >=", "low >", "low +", "1 -", "1 *", "1 /", "not 1 <"}) {
                mayStand(deed + before, factor);
            }
            for (String before : new String[] {"low", "1", "not 1", "1+2", "(1)", "(1<2)", "1<2 and 3", "1<2 or not 3", "not (1<2)"}) {
                mayStand(deed + before, "CMP" + sums + end);
            }
            for (String before : new String[] {"1<2", "1=2+3", "1<(2)", "1<(2<3)", "not 1<2", "0 and 1<2"}) {
                mayStand(deed + before, sums.trim() + end);
            }
            for (String before : new String[] {"(1", "(not 1", "1<(2", "((1<2)", "(1<2 and 3"}) mayStand(deed + before, "CMP" + sums + " )");
            for (String before : new String[] {"(1<2", "(1<(2)", "1<(2<3"}) mayStand(deed + before, sums.trim() + " )");
        }
    }

    /** "blanks 10, 32": no other sign parts tokens, and these may stand about each of them. */
    private static void blanks() {
        Due.fine("\n stop\n \n1 \n; \n", 1, 1);
        Due.fine("if(low)<(high)fall 0low+1;", 1, 6);
        for (int sign = 0; sign < 256; sign++) {
            HighFall x = new HighFall();
            boolean blank = sign == 10 || sign == 32;
            Due.due("stop" + sign + "1;", Due.plan(x, "stop" + (char) sign + "1;") == 1, blank || sign >= '0' && sign <= '9');
            Due.due("behind the last line: " + sign, Due.plan(x, "stop 1;" + (char) sign) == 1, blank);
        }
    }

    /** "a = (or > behind <) right behind < or > belongs to it". */
    private static void doubleSigns() {
        Due.fine("stop 1<=2;", 1, 3);
        Due.fine("stop 1<>2;", 1, 3);
        Due.fine("stop 1>=2;", 1, 3);
        Due.fault("stop 1< =2;", 1, 8);
        Due.fault("stop 1< >2;", 1, 8);
        Due.fault("stop 1> =2;", 1, 8);
        Due.fault("stop 1<\n=2;", 1, 8);
        Due.fault("stop 1><2;", 1, 7);
        Due.fault("stop 1=>2;", 1, 7);
        Due.fault("stop 1==2;", 1, 7);
        Due.fault("stop 1<==2;", 1, 8);
        Due.fault("stop 1<<2;", 1, 7);
        Due.fault("stop <=1;", 1, 5);
        Due.fault("stop 1 2<=3;", 1, 7);
        // a second comparison has its place at its first sign
        Due.fault("stop 1<2 <=3;", 1, 9);
        Due.fault("stop 1<", 1, 7);
        Due.fault("stop 1<=", 1, 8);
    }

    /** "Words: small letters in a row; N: digits": they end where another sort begins. */
    private static void rows() {
        Due.fine("stop1;stop2;", 2, 2);
        Due.fine("if1fall1 1;", 1, 2);
        Due.fine("fall0low;", 1, 1);
        Due.fault("fall01;", 1, 6);
        Due.fault("fall00 1 1;", 1, 9);
        Due.fault("stopp 1;", 1, 0);
        Due.fault("stop aand;", 1, 5);
        Due.fault("stop 1and2or3not 4;", 1, 13);
        Due.fine("stop 1and2or3;", 1, 5);
        Due.fault("stop lowor1;", 1, 5);
        for (String name : NAMES) {
            Due.fine("stop " + name + ";", 1, 1);
            Due.fault("stop " + name + "s;", 1, 5);
            Due.fault("stop " + name.substring(1) + ";", 1, 5);
            Due.fault("stop " + name.substring(0, name.length() - 1) + ";", 1, 5);
            Due.fault("stop " + name.toUpperCase() + ";", 1, 5);
        }
        for (String word : List.of("if", "fall", "stop", "or", "and", "not", "low", "high", "span", "falls", "last", "broke",
                "one", "two", "three")) {
            String before = word.equals("or") || word.equals("and") ? "stop 1 " : NAMES.contains(word) || word.equals("not") ? "stop " : "";
            for (String letter : new String[] {"a", "x", "z"}) {
                for (int i = 0; i <= word.length(); i++) {
                    Due.fault(before + word.substring(0, i) + letter + word.substring(i) + " 1;", 1, before.length());
                    if (i < word.length() && word.charAt(i) != letter.charAt(0)) {
                        Due.fault(before + word.substring(0, i) + letter + word.substring(i + 1) + " 1;", 1, before.length());
                    }
                }
            }
        }
    }

    /** "(the length, if more must come)": the length is that of the bytes told, blanks and all. */
    private static void tooShort() {
        String text = "if low < ( 3 + 1 ) and not high fall 2 low + 1 ;";
        for (int size = 0; size <= text.length(); size++) {
            HighFall x = new HighFall();
            Due.feed(x, text);
            String part = text.substring(0, size);
            if (part.trim().isEmpty() || size == text.length()) {
                Due.due("whole to " + size, x.plan(size), size == 0 ? 0 : 1);
            } else if (!part.matches(".*(\\b(i|l|lo|a|an|n|no|h|hi|hig|f|fa|fal))$")) {
                Due.due("cut at " + size, x.plan(size), -1);
                Due.due("more must come at " + size, x.fault(0), 1);
                Due.due("its place is the length", x.fault(1), size);
            } else {
                Due.due("cut in a word at " + size, x.plan(size), -1);
                Due.due("the word is another one", x.fault(1), part.lastIndexOf(' ') + 1);
            }
        }
    }

    /** What lies behind the told length belongs to no TOKEN. */
    private static void behindTheLength() {
        String[][] cuts = {{"stop 1", "2;"}, {"stop 1<", "=2;"}, {"stop 1<", ">2;"}, {"stop 1>", "=2;"}, {"stop low", "s;"},
            {"stop 1 an", "d 2;"}, {"fall 0", "0 1;"}, {"stop 1 ", ";"}, {"stop", "p"}};
        for (String[] cut : cuts) {
            int size = cut[0].length();
            int place = cut[0].endsWith("an") ? 7 : size;
            for (int ahead : new int[] {0, 13, 380 - 20, 400 - size - cut[1].length(), 400 - size}) {
                HighFall x = new HighFall();
                Due.feed(x, (" ".repeat(ahead) + cut[0] + cut[1] + " ".repeat(20)).substring(0, Math.min(400, ahead + size + cut[1].length())));
                Due.due("<" + cut[0] + "> behind " + ahead, x.plan(ahead + size), -1);
                Due.due("<" + cut[0] + ">: more must come", x.fault(0), 1);
                Due.due("<" + cut[0] + ">: its place", x.fault(1), ahead + place);
            }
        }
        HighFall x = new HighFall();
        Due.feed(x, "stop 7;8");
        Due.due("a sign more", x.plan(7), 1);
        Due.due("is not heeded", x.tried(0, 4), 7);
    }

    /** A text with a FAULT leaves nothing behind for the next one. */
    private static void behindFaults() {
        String[] wrong = {"stop ((((((((1;", "stop (1;", "stop 1+", "stop not", "stop not not not", "if 1<2<3", "if 1", "fall",
            "fall 0", "if (1<", "stop 1<(2 or", "stop " + "not ".repeat(65), "stop 1;".repeat(13), "stop 1000", "if low stop 1"};
        for (String text : wrong) {
            HighFall x = new HighFall();
            Due.due("<" + text + ">", Due.plan(x, text), -1);
            Due.due("a right text behind it", Due.plan(x, "stop ((((((((1<2))))))));"), 1);
            Due.due("<" + text + ">, then one that says 1", x.tried(0, 4), 1);
            Due.due("its knots", x.count(2), 3);
            Due.plan(x, text);
            Due.due("twelve lines behind it", Due.plan(x, "if 0 stop 1;".repeat(11) + "if 1=1 stop 12;"), 12);
            Due.due("the twelfth says 12", x.tried(0, 4), 12);
            Due.plan(x, text);
            Due.due("a fall behind it", Due.plan(x, "fall 0 low+1;"), 1);
            Due.due("goes up", x.tried(5, 1), 6);
        }
    }

    /** "2 too much (at it): a number beyond what is said": N to 999, K to 2. */
    private static void numbers() {
        Due.fine("stop 0;", 1, 1);
        Due.fine("stop 999;", 1, 1);
        Due.fault("stop 1000;", 2, 5);
        Due.fault("stop 1+1000;", 2, 7);
        Due.fault("if 1000 stop 1;", 2, 3);
        // 2 to the 32 and to the 64, and one more of each: they must not come round to 0 and 1
        Due.fault("stop 4294967296;", 2, 5);
        Due.fault("stop 4294967297;", 2, 5);
        Due.fault("stop 18446744073709551616;", 2, 5);
        Due.fault("stop " + "9".repeat(300) + ";", 2, 5);
        Due.fault("fall 4294967297 1;", 2, 5);
        Due.fault("fall 1000 1;", 2, 5);
        Due.fault("fall 999 1;", 2, 5);
        for (int kind = 0; kind <= 2; kind++) Due.fine("fall " + kind + " 1;", 1, 1);
        Due.fault("fall 3 1;", 2, 5);
        Due.fault("if 1 fall 3 1;", 2, 10);
        HighFall x = new HighFall();
        Due.plan(x, "stop 999;");
        Due.due("999 is 999", x.tried(0, 4), 999);
    }

    /** "a 13th LINE (at its first TOKEN)". */
    private static void lines() {
        Due.fine("stop 1;".repeat(12), 12, 12);
        Due.fine("stop 1;".repeat(12) + "\n\n ", 12, 12);
        for (String first : new String[] {"stop", "fall", "if"}) {
            Due.fault("stop 1;".repeat(12) + " \n" + first, 2, 86);
            Due.fault("if 1 fall 0 1;".repeat(12) + first, 2, 168);
        }
        // what can't begin a line is wrong before it is too much
        for (String first : new String[] {";", "low", "1", "1000", "x", "!", "("}) Due.fault("stop 1;".repeat(12) + first, 1, 84);
    }

    /** "a ninth '(' open": those that are closed don't count. */
    private static void open() {
        for (String deed : new String[] {"stop ", "fall 1 ", "if 1 stop "}) {
            int knots = deed.startsWith("if") ? 2 : 1;
            Due.fine(deed + "((((((((1))))))));", 1, knots);
            Due.fault(deed + "(((((((((1)))))))));", 2, deed.length() + 8);
        }
        Due.fine("if((((((((1))))))))stop((((((((1))))))));", 1, 2);
        Due.fault("if(((((((((1)))))))))stop 1;", 2, 10);
        Due.fine("stop(1)+(1)+(1)+(1)+(1)+(1)+(1)+(1)+(1)+(1);", 1, 19);
        Due.fine("stop(((((((1+(1)+(1))))))));", 1, 5);
        Due.fault("stop(((((((1+(1)+((1", 2, 18);
        Due.fine("stop((((((((1))))))));".repeat(12), 12, 12);
        // where it can't stand it is wrong before it is too much
        Due.fault("stop((((((((1(", 1, 13);
    }

    /** "a 65th KNOT of the whole text (N but K, NAMES, signs, not, and, or: one each)". */
    private static void knots() {
        Due.fine("stop " + "1+".repeat(31) + "1;stop 1;", 2, 64);
        Due.fault("stop " + "1+".repeat(32) + "1;", 2, 69);
        String all = "stop " + "1+".repeat(31) + "1;fall 2 1";
        Due.fine(all + ";", 2, 64);
        for (String sign : new String[] {"<", "<=", "=", "<>", ">=", ">", "+", "-", "*", "/", " and", " or"}) {
            String text = all + sign + " 1;";
            Due.fault(text, 2, text.indexOf(sign.trim(), 70));
        }
        String almost = "stop " + "1+".repeat(31) + "1;";
        Due.fault(almost + "stop not 1;", 2, 69 + 9);
        Due.fault(almost + "if 1 stop 1;", 2, 69 + 10);
        Due.fault(almost + "if 1 stop low;", 2, 69 + 10);
        Due.fault(almost + "if 1 stop not 1;", 2, 69 + 10);
        Due.fine(almost + "stop ((((((((1))))))));", 2, 64);
        // a kind's number is none, nor are if, fall, stop and ;
        Due.fine("if 1 fall 0 1;".repeat(12), 12, 24);
        Due.fine("stop " + "1+".repeat(31) + "1;", 1, 63);
        // wrong before too much
        Due.fault(almost + "stop 1 1;", 1, 69 + 7);
        Due.fault(almost + "stop 1 not 1;", 1, 69 + 7);
        Due.fault("stop " + "1+".repeat(30) + "1<1;stop 1 < ", 2, 69 + 7);
        Due.fault("stop " + "not ".repeat(63) + "1<1<1;", 2, 5 + 252 + 1);
        Due.fault("stop " + "not ".repeat(61) + "1<1<1;", 1, 5 + 244 + 3);
    }

    /** "FAULTS, the first along the text (of one place the least)". */
    private static void first() {
        Due.fault("stop 1000 !;", 2, 5);
        Due.fault("stop ! 1000;", 1, 5);
        Due.fault("stop 1 1000;", 1, 7);
        Due.fault("1000 stop;", 1, 0);
        Due.fault("stop low 1000;", 1, 9);
        Due.fault("fall 3 !;", 2, 5);
        Due.fault("fall ! 3;", 1, 5);
        Due.fault("stop 1;".repeat(12) + "stop 1000;", 2, 84);
        Due.fault("stop 1000;" + "stop 1;".repeat(12), 2, 5);
    }

    public static void main(String[] args) {
        bytesOfNumbers();
        fullTape();
        toldLengths();
        planAhead();
        latestFault();
        tokens();
        blanks();
        doubleSigns();
        rows();
        tooShort();
        behindTheLength();
        behindFaults();
        numbers();
        lines();
        open();
        knots();
        first();
        Due.end();
    }
}
