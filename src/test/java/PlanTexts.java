import java.util.Random;

/** Texts of plans: right ones, made along the grammar, and such with a little damage. */
final class PlanTexts {
    private static final String[] NAMES = {"low", "high", "span", "falls", "last", "broke", "one", "two", "three"};
    private static final String[] SIGNS = {"<", "<=", "=", "<>", ">=", ">"};
    private static final String[] JUNK = {"(", ")", ";", "not", "and", "or", "if", "fall", "stop", "<", "=", ">",
        "+", "-", "*", "/", "1000", "999", "3", "low", "Low", "lows", "!", "\t", "\u00e9", "0", "\n", " ", "<>="};

    private final Random random;

    PlanTexts(Random random) {
        this.random = random;
    }

    String text() {
        StringBuilder text = new StringBuilder();
        int lines = random.nextInt(12) == 0 ? 10 + random.nextInt(5) : 1 + random.nextInt(4);
        int depth = random.nextInt(8) == 0 ? 12 : 3;
        for (int i = 0; i < lines; i++) text.append(line(lines > 5 ? 1 : depth));
        if (random.nextInt(2) == 0) text.append(sure());
        if (random.nextInt(3) == 0) damage(text);
        return text.toString();
    }

    private String gap() {
        return random.nextInt(6) == 0 ? "\n" : " ";
    }

    private String tight() {
        return random.nextInt(2) == 0 ? "" : gap();
    }

    /** Lines that mostly go on to the end, so that trials are long ones. */
    private String sure() {
        switch (random.nextInt(4)) {
            case 0:
                return "fall 0 low+1;";
            case 1:
                return "if one>1 fall 0 (low+high+1)/2;fall 0 low+1;";
            case 2:
                return "if two>0 fall 1 high;if three>0 fall 2 low+1;if one>0 fall 0 low+1;stop low;";
            default:
                return "if falls<" + random.nextInt(250) + " fall 0 1;stop high;";
        }
    }

    private String line(int depth) {
        String start = random.nextInt(3) == 0 ? "" : "if" + gap() + either(depth) + gap();
        String deed = random.nextInt(4) == 0 ? "stop" : "fall" + tight() + random.nextInt(3);
        return start + deed + gap() + either(depth) + tight() + ";";
    }

    private String either(int depth) {
        String text = both(depth);
        for (int i = 0; i < 2 && random.nextInt(8) == 0; i++) text += gap() + "or" + gap() + both(depth);
        return text;
    }

    private String both(int depth) {
        String text = turned(depth);
        for (int i = 0; i < 2 && random.nextInt(8) == 0; i++) text += gap() + "and" + gap() + turned(depth);
        return text;
    }

    private String turned(int depth) {
        if (random.nextInt(10) == 0) return "not" + gap() + turned(depth);
        return sum(depth) + (random.nextInt(3) == 0 ? tight() + SIGNS[random.nextInt(6)] + tight() + sum(depth) : "");
    }

    private String sum(int depth) {
        String text = product(depth);
        for (int i = 0; i < 2 && random.nextInt(3) == 0; i++) {
            text += tight() + (random.nextBoolean() ? "+" : "-") + tight() + product(depth);
        }
        return text;
    }

    private String product(int depth) {
        String text = operand(depth);
        int most = random.nextInt(12) == 0 ? 6 : 2;
        for (int i = 0; i < most && random.nextInt(4) < most / 2; i++) {
            text += tight() + (random.nextInt(4) != 0 ? "*" : "/") + tight() + operand(depth);
        }
        return text;
    }

    private String operand(int depth) {
        int dice = random.nextInt(10);
        if (dice < 2 + depth / 4 * 4 && depth > 0) return "(" + tight() + either(depth - 1) + tight() + ")";
        if (dice < 6) return NAMES[random.nextInt(NAMES.length)];
        if (dice == 6) return "" + (990 + random.nextInt(10));
        return "" + random.nextInt(random.nextInt(3) == 0 ? 40 : 4);
    }

    private void damage(StringBuilder text) {
        int at = random.nextInt(text.length());
        switch (random.nextInt(4)) {
            case 0:
                text.setLength(at);
                break;
            case 1:
                text.deleteCharAt(at);
                break;
            case 2:
                text.insert(at, JUNK[random.nextInt(JUNK.length)]);
                break;
            default:
                text.setCharAt(at, (char) random.nextInt(256));
                break;
        }
    }
}
