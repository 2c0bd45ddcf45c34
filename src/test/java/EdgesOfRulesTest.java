import java.io.IOException;

/** Edges of rules: promises 17 to 20, and what Terms say of them. */
public final class EdgesOfRulesTest extends Edges {
    private static final int[] NO_TEXTS = {-1, 4, NONE, LEAST, MOST};
    private static final int[] NO_DAYS = {-1, 1000, NONE, LEAST, MOST};
    private static final int[] NO_LETTERS = {-1, 5, NONE, LEAST, MOST};
    private static final int[] AT_FIRST = {1, 21, 3, 2, 1};
    private static final String LETTERS = "LRSDC";

    public static void main(String[] args) throws IOException {
        begin(args);
        fault();
        items();
        rule();
        force();
        inForce();
        why();
        end(17, 20);
    }

    private static int faultOf(String text) {
        write(3, text);
        return x.fault(3);
    }

    private static void fault() {
        edge(17, "A FAULT of a TEXT of RULES; NONE: there is none.");
        due(NONE, faultOf("L1"));
        due(0, faultOf("?"));

        edge(17, "BAD");
        write(0, "L1");
        for (int t : NO_TEXTS) refuses(BAD, () -> x.fault(t));

        edge(17, "NOTHING");
        for (int t : new int[] {0, 1, 2, 3}) finds(NOTHING, () -> x.fault(t));

        terms("with blanks ahead, between, behind as many as wanted");
        due(NONE, faultOf("L1R2"));
        due(NONE, faultOf("L1 R2"));
        due(NONE, faultOf("   L1    R2   "));
        due(NONE, faultOf("L1"));
        due(NONE, faultOf(""));
        due(NONE, faultOf(" "));
        due(NONE, faultOf("                                                            "));
        due(NONE, faultOf("L1R2S3D4C5L1R2S3D4C5L1R2S3D4C5L1R2S3D4C5L1R2S3D4C5L1R2S3D4C5"));
        due(60, faultOf("L1R2S3D4C5L1R2S3D4C5L1R2S3D4C5L1R2S3D4C5L1R2S3D4C5L1R2S3D4 C"));

        terms("A FAULT is the first place at which it can't go on so");
        due(0, faultOf("1"));
        due(0, faultOf("/"));
        due(2, faultOf("  1"));
        due(1, faultOf("L 1"));
        due(1, faultOf("LL1"));
        due(1, faultOf("L-1"));
        due(3, faultOf("L1 1"));
        due(2, faultOf("L1?"));
        due(3, faultOf("L1 ?L"));
        due(4, faultOf("L1 R L"));
        due(4, faultOf("L1 RL"));

        terms("(the TEXT's size, if its end comes too early)");
        due(1, faultOf("L"));
        due(2, faultOf(" C"));
        due(3, faultOf("L1R"));
        due(60, faultOf("                                                           L"));
    }

    private static void items() {
        terms("one of the letters below (capitals), then a number (one to three digits)");
        due(NONE, faultOf("L0"));
        due(NONE, faultOf("L00"));
        due(NONE, faultOf("L999"));
        due(NONE, faultOf("L000"));
        due(4, faultOf("L0000"));
        due(4, faultOf("L1234"));
        due(4, faultOf("L1234x"));
        due(4, faultOf("L123."));
        due(NONE, faultOf("L123L123"));
        due(7, faultOf("L1 R1234"));

        // Letters and digits by all bytes: alone, behind a letter, behind a digit.
        due(5, signsTaken("", "1"));
        due(10, signsTaken("L", ""));
        due(15, signsTaken("L1", "1"));

        terms("L (76): as above. R (82): how many years a right lasts. S (83): how many slips must be shared at least. "
            + "D (68): how many years a printer's sheets may be younger than his till. C (67): by how much a cut may be off.");
        int[] signs = {76, 82, 83, 68, 67};
        for (int what = 0; what < 5; what++) {
            x.text(0, 2);
            x.put(0, 0, signs[what]);
            x.put(0, 1, '7');
            due(NONE, x.fault(0));
            due(what, x.rule(0, 0));
            for (int other = 0; other < 5; other++) due(other <= what ? 7 : AT_FIRST[other], x.force(other, 0, 0));
        }
    }

    /** How many of all bytes can stand between two texts; at each other one lies the fault. */
    private static int signsTaken(String ahead, String behind) {
        int taken = 0;
        for (int sign = -128; sign < 128; sign++) {
            terms("one of the letters below (capitals), then a number (one to three digits)");
            x.text(0, ahead.length() + 1 + behind.length());
            for (int i = 0; i < ahead.length(); i++) x.put(0, i, ahead.charAt(i));
            x.put(0, ahead.length(), sign);
            for (int i = 0; i < behind.length(); i++) x.put(0, ahead.length() + 1 + i, behind.charAt(i));
            int fault = x.fault(0);
            if (fault == NONE) taken++;
            // A blank may stand where an item may, but no digit behind it.
            else due(sign == ' ' && !ahead.equals("L") ? ahead.length() + 1 : ahead.length(), fault);
        }
        return taken;
    }

    private static void rule() {
        edge(18, "RULES, in force from a day on: their number.");
        due(0, rule("L1", 0));
        due(1, rule("L1", 999));
        due(2, rule("L1", 0));
        due(3, rule("", 0));
        due(4, rule("   ", 5));
        due(5, x.count(4));

        edge(18, "BAD");
        write(0, "L1");
        for (int t : NO_TEXTS) refuses(BAD, () -> x.rule(t, 0));
        for (int day : NO_DAYS) refuses(BAD, () -> x.rule(0, day));
        for (int day : NO_DAYS) refuses(BAD, () -> x.rule(1, day));

        edge(18, "FULL");
        write(0, "L1");
        for (int k = 0; k < 16; k++) due(k, x.rule(0, k));
        refuses(FULL, () -> x.rule(0, 0));
        refuses(FULL, () -> x.rule(1, 0));
        refuses(BAD, () -> x.rule(0, 1000));
        refuses(BAD, () -> x.rule(4, 0));
        x.put(0, 0, 'x');
        refuses(FULL, () -> x.rule(0, 0));
        due(16, x.count(4));

        edge(18, "NOTHING");
        finds(NOTHING, () -> x.rule(0, 0));
        finds(NOTHING, () -> x.rule(3, 999));

        edge(18, "STATE: the TEXT has a FAULT.");
        write(0, "L");
        refuses(STATE, () -> x.rule(0, 0));
        write(0, "L1 x");
        refuses(STATE, () -> x.rule(0, 0));
        write(0, "L1234");
        refuses(STATE, () -> x.rule(0, 0));
        due(0, x.count(4));
        due(1, x.force(0, 0, 0));
        refuses(BAD, () -> x.rule(0, -1));

        edge(18, "(STATE behind NOTHING.)");
        write(0, "?");
        refuses(STATE, () -> x.rule(0, 0));
        finds(NOTHING, () -> x.rule(1, 0));

        terms("(16 at most ever)");
        for (int k = 0; k < 15; k++) due(k, rule("L2", 0));
        x.later(999);
        due(15, rule("L3", 0));
        due(FULL, rule("L4", 0));
        due(3, x.force(0, 999, 999));

        terms("told TODAY, in force from a day on");
        x.later(7);
        rule("L9", 3);
        due(1, x.force(0, 999, 6));
        due(9, x.force(0, 999, 7));
        due(1, x.force(0, 2, 7));
        due(9, x.force(0, 3, 7));
        x.text(3, 0);
        due(9, x.force(0, 3, 7));
    }

    private static void force() {
        edge(19, "What is IN FORCE by a letter (0 L, 1 R, 2 S, 3 D, 4 C) for a day, as known on one.");
        rule("L10R11S12D13C14", 0);
        for (int what = 0; what < 5; what++) due(10 + what, x.force(what, 0, 0));

        edge(19, "BAD");
        for (int what : NO_LETTERS) refuses(BAD, () -> x.force(what, 0, 0));
        for (int day : NO_DAYS) refuses(BAD, () -> x.force(0, day, 0));
        for (int day : NO_DAYS) refuses(BAD, () -> x.force(0, 0, day));

        edge(19, "for a day, as known on one");
        due(1, x.force(0, 0, 0));
        due(1, x.force(4, 999, 999));
        due(21, x.force(1, 0, 999));
        due(3, x.force(2, 999, 0));
    }

    private static void inForce() {
        terms("none: L 1, R 21, S 3, D 2, C 1.");
        for (int what = 0; what < 5; what++) due(AT_FIRST[what], x.force(what, 0, 0));
        for (int what = 0; what < 5; what++) due(AT_FIRST[what], x.force(what, 999, 999));
        for (int what = 0; what < 5; what++) {
            terms("none: L 1, R 21, S 3, D 2, C 1.");
            rule(new StringBuilder().append(LETTERS.charAt(what)).append("77").toString(), 0);
            for (int other = 0; other < 5; other++) due(other == what ? 77 : AT_FIRST[other], x.force(other, 0, 0));
        }
        rule("", 0);
        due(1, x.force(0, 0, 0));

        terms("of RULES told on the latter or ahead of it");
        x.later(10);
        rule("L5", 0);
        due(1, x.force(0, 0, 0));
        due(1, x.force(0, 999, 9));
        due(5, x.force(0, 0, 10));
        due(5, x.force(0, 0, 11));
        due(5, x.force(0, 0, 999));

        terms("in force from the former or ahead of it");
        rule("L5", 20);
        due(1, x.force(0, 0, 999));
        due(1, x.force(0, 19, 999));
        due(5, x.force(0, 20, 999));
        due(5, x.force(0, 21, 999));
        due(5, x.force(0, 999, 0));

        terms("the last item of the RULE with the latest from-day");
        rule("L5 L6R1L7", 20);
        rule("L8", 19);
        rule("L9 R2", 5);
        due(7, x.force(0, 20, 0));
        due(8, x.force(0, 19, 0));
        due(9, x.force(0, 18, 0));
        due(9, x.force(0, 5, 0));
        due(1, x.force(0, 4, 0));
        due(1, x.force(1, 20, 0));
        due(2, x.force(1, 19, 0));

        terms("of alike ones of the one told last");
        rule("L5", 20);
        rule("L6", 20);
        due(6, x.force(0, 20, 0));
        x.later(1);
        rule("L4", 20);
        due(6, x.force(0, 20, 0));
        due(4, x.force(0, 20, 1));
        rule("R4", 20);
        due(4, x.force(0, 20, 1));

        terms("of all items with that letter");
        rule("L5", 3);
        rule("R6", 9);
        rule("", 9);
        due(5, x.force(0, 9, 0));
        due(6, x.force(1, 9, 0));
        due(3, x.force(2, 9, 0));

        terms("a number (one to three digits)");
        String[] numbers = {"0", "00", "000", "9", "09", "009", "10", "99", "099", "100", "999"};
        int[] values = {0, 0, 0, 9, 9, 9, 10, 99, 99, 100, 999};
        for (int k = 0; k < numbers.length; k++) {
            rule(new StringBuilder("L").append(numbers[k]).toString(), k);
            due(values[k], x.force(0, k, 0));
        }
    }

    private static void why() {
        edge(20, "By which RULES that is so; NONE: by none.");
        for (int what = 0; what < 5; what++) due(NONE, x.why(what, 999, 999));
        due(0, rule("L1", 10));
        due(1, rule("L1", 10));
        due(2, rule("R1", 10));
        due(3, rule("L1", 9));
        due(NONE, x.why(0, 8, 999));
        due(3, x.why(0, 9, 0));
        due(1, x.why(0, 10, 0));
        due(2, x.why(1, 10, 0));
        due(NONE, x.why(2, 999, 999));
        x.later(1);
        due(4, rule("L1 S0", 10));
        due(1, x.why(0, 10, 0));
        due(4, x.why(0, 10, 1));
        due(4, x.why(2, 10, 1));
        for (int k = 5; k < 16; k++) rule("C1", 10);
        due(15, x.why(4, 999, 999));

        edge(20, "BAD");
        for (int what : NO_LETTERS) refuses(BAD, () -> x.why(what, 0, 0));
        for (int day : NO_DAYS) refuses(BAD, () -> x.why(0, day, 0));
        for (int day : NO_DAYS) refuses(BAD, () -> x.why(0, 0, day));
        due(NONE, x.why(0, 0, 0));
        due(NONE, x.why(4, 999, 999));
    }
}
