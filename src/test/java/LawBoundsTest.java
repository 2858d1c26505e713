/** The bounds of the language of LAWS: what can be read, where the FAULT is if it can't, what is BROKEN. */
public final class LawBoundsTest {
    private static final int NONE = Bench.NONE;
    private static final Checks CHECKS = new Checks("LawBoundsTest");
    /** What WORTH is if no "worth" HOLDS. */
    private static final int BASE = 33;

    public static void main(String[] args) {
        longestRows();
        eachByte();
        blanks();
        clauses();
        clauseForms();
        wrongWords();
        everyEnd();
        numbers();
        parts();
        partsByWords();
        brackets();
        bracketsOfBothKinds();
        words();
        outsideOfYears();
        beyond();
        noWrapAround();
        overZero();
        cutTowardsZero();
        brokenTests();
        orAndAnd();
        brokenClauses();
        worthBounds();
        lastWorth();
        bars();
        tokensOfAllBytes();
        CHECKS.close();
    }

    private static void due(String what, long got, long want) {
        CHECKS.same(what, got, want);
    }

    private static String times(String piece, int n) {
        return Bench.times(piece, n);
    }

    private static void fault(String text, int place) {
        SoleGuest x = new SoleGuest();
        due("law of '" + text + "'", Bench.law(x, text), place == NONE ? 0 : -6);
        due("fault of '" + text + "'", x.fault(), place);
        due("laws of '" + text + "'", x.count(2), place == NONE ? 1 : 0);
        due("status of '" + text + "'", x.status(), place == NONE ? 0 : -6);
        due("refused of '" + text + "'", x.count(8), place == NONE ? 0 : 1);
        due("tape of '" + text + "'", x.count(3), 0);
    }

    private static void fine(String text) {
        fault(text, NONE);
    }

    /** HOST 1 in STREET 2, GUEST 2 with WIT 3. */
    private static SoleGuest under(String text) {
        SoleGuest x = Bench.street(Bench.row(3, 50, -7), Bench.row(11, 22, BASE));
        int law = Bench.law(x, text);
        due("law of '" + text + "'", law, 0);
        x.force(law);
        return x;
    }

    private static void worth(String text, int want) {
        due("WORTH by '" + text + "'", under(text).of(1, 2, 1), want);
    }

    private static void test(String text, boolean so) {
        worth("worth 5 if " + text, so ? 5 : BASE);
        due("BARRED by '" + text + "'", under("bars if " + text).of(1, 2, 2), so ? 1 : 0);
    }

    private static void longestRows() {
        fault("barsif 1=1", 0);
        fault("worthbase", 0);
        fault("worth basewit", 6);
        fault("bars ifnot 1=1", 5);
        fault("bars if 1=1 orhost=1", 12);
        fault("b ars", 0);
        fault("worth wi t", 6);
        fault("worth 1 0", 8);
        fault("worth 1base", 7);
        fault("worth base1", 10);
        fine("worth1");
        fine("worth 1if 1=1or 2=2and 3=3");
        fine("bars if1=1");
        fine("worth[1]");
        fine("bars;bars");
        worth("worth 10", 10);
        worth("worth12if1=1", 12);
        fault("worth 10000", 6);
    }

    private static boolean isLetter(int b) {
        return b >= 'a' && b <= 'z';
    }

    private static boolean isDigit(int b) {
        return b >= '0' && b <= '9';
    }

    /** Every byte ahead of, within and behind what can be. */
    private static void eachByte() {
        for (int b = 0; b <= 255; b++) {
            String sign = Bench.bytes(b);
            fault(sign + "bars", b == ' ' ? NONE : 0);
            fault("bars" + sign, b == ' ' ? NONE : isLetter(b) ? 0 : b == ';' ? 5 : 4);
            boolean joins = "+-*/;".indexOf(b) >= 0;
            fault("worth 1" + sign, b == ' ' || isDigit(b) ? NONE : joins ? 8 : 7);
            fault("worth" + sign + "1", b == ' ' || isDigit(b) ? NONE : isLetter(b) ? 0 : b == '[' ? 7 : 5);
            boolean compares = b == '<' || b == '>' || b == '=';
            boolean sums = "+-*/".indexOf(b) >= 0;
            fault("bars if 1" + sign + "2", compares ? NONE : sums || isDigit(b) ? 11 : b == ' ' ? 10 : 9);
            fault("bars if " + sign + "1=1)", b == '(' ? NONE : b == '[' ? 10 : b == ' ' || isDigit(b) ? 12 : 8);
        }
    }

    private static void blanks() {
        fine(times(" ", 396) + "bars");
        fine("bars" + times(" ", 396));
        fine(" worth  [ 1 +  base ]   *2  if ( not  1 = 1 )  ;  bars ");
        fine("worth[1+base]*2if(not1=1);bars");
        fault("   ", 3);
        fault("  bars  bars", 8);
        fault("bars ;   ", 9);
        fault("worth   ", 8);
        fault(times(" ", 400), 400);
        fault("bars" + Bench.bytes(9) + "if 1=1", 4);
        fault("bars" + Bench.bytes(10), 4);
        fault("bars" + Bench.bytes(13), 4);
        fault("bars" + Bench.bytes(160), 4);
        fault("bars" + Bench.bytes(0), 4);
    }

    private static void clauses() {
        fine("bars");
        for (int n = 2; n <= 12; n++) {
            fine(times("bars;", n - 1) + "bars");
            fault(times("bars;", n), 5 * n);
        }
        fault(times("bars;", 12) + "bars", 60);
        fault(times("bars;", 12) + "   bars", 63);
        fault(times("bars;", 12) + "worth 1", 60);
        fault(times("bars;", 12) + "worth 1001", 60);
        fault(times("bars;", 12) + ";", 60);
        fault(times("bars;", 12) + "bars;bars", 60);
        fault(times("bars;", 12) + "  ", 62);
        fault(times("bars;", 11) + "bars bars", 60);
        fault(times("worth 1;", 12) + "bars", 96);
        fine(times("worth 1;", 11) + "bars");
        SoleGuest x = under(times("worth 4;", 11) + "worth 6");
        due("the 12th CLAUSE counts", x.of(1, 2, 1), 6);
    }

    private static void clauseForms() {
        fault("", 0);
        fault(";", 0);
        fault("bars;;bars", 5);
        fault("bars bars", 5);
        fault("bars 1", 5);
        fault("bars worth 1", 5);
        fault("worth", 5);
        fault("worth;", 5);
        fault("worth if 1=1", 6);
        fault("worth 1 if", 10);
        fault("worth 1 if 1=1 if 1=1", 15);
        fault("bars if 1=1 if 1=1", 12);
        fault("bars if;", 7);
        fault("if 1=1", 0);
        fault("worth 1 2", 8);
        fault("worth 1<2", 7);
        fault("worth (1)", 6);
        fault("worth not 1=1", 6);
        fault("worth -1", 6);
        fault("worth +1", 6);
        fault("worth 1+-1", 8);
        fault("worth 1*/1", 8);
        fault("worth []", 7);
        fault("worth [1", 8);
        fault("worth 1]", 7);
        fault("worth [1)", 8);
        fault("worth [1=1]", 8);
        fault("worth [1]]", 9);
        fault("bars if ()", 9);
        fault("bars if (1=1", 12);
        fault("bars if 1=1)", 11);
        fault("bars if (1=1]", 12);
        fault("bars if (1)=1", 10);
        fault("bars if [1=1]", 10);
        fault("bars if 1", 9);
        fault("bars if 1=", 10);
        fault("bars if =1", 8);
        fault("bars if 1=1=1", 11);
        fault("bars if 1<>1", 10);
        fault("bars if 1=1 and", 15);
        fault("bars if 1=1 or or", 15);
        fault("bars if and 1=1", 8);
        fault("bars if not", 11);
        fault("bars if 1 not=1", 10);
        fault("bars if 1=not 1", 10);
        fault("bars if not not", 15);
        fine("bars if not not not 1=1");
        fine("bars if not(1=1)and not(2=2)or not 3=3");
        fine("bars if (1=1)");
        fine("bars if [1]=[1]");
        fine("bars if ([1]=[1])");
    }

    private static final String[] ALL_WORDS = {"worth", "bars", "if", "or", "and", "not", "host", "guest", "base", "wit",
        "street", "met", "evening"};

    private static boolean isPart(String word) {
        for (int i = 6; i < ALL_WORDS.length; i++) {
            if (ALL_WORDS[i].equals(word)) {
                return true;
            }
        }
        return false;
    }

    /** Every word where a CLAUSE begins, where a PART is due, and behind one. */
    private static void wrongWords() {
        for (String word : ALL_WORDS) {
            int n = word.length();
            fault(word, word.equals("bars") ? NONE : word.equals("worth") ? 5 : 0);
            fault("worth " + word, isPart(word) ? NONE : 6);
            fault("worth 1 " + word, word.equals("if") ? 10 : 8);
            fault("bars " + word, word.equals("if") ? 7 : 5);
            fault("bars if " + word, isPart(word) || word.equals("not") ? 8 + n : 8);
            fault("bars if 1=1 " + word, word.equals("or") || word.equals("and") ? 12 + n : 12);
            fault("worth " + word.substring(0, n - 1), 6);
            fault("worth " + word + "s", 6);
            fault("worth " + word.toUpperCase(), 6);
        }
    }

    /** A TEXT that is cut anywhere is at FAULT at its end, or where the cut word stands, or is one by itself. */
    private static void everyEnd() {
        String text = "worth [1+base]*2 if not (wit=3 or met<1) and 2>1;bars";
        int[] tokens = {0, 6, 7, 8, 9, 13, 14, 15, 17, 20, 24, 25, 28, 29, 31, 34, 37, 38, 39, 41, 45, 46, 47, 48, 49};
        boolean[] fineBehind = new boolean[tokens.length];
        for (int whole : new int[] {5, 7, 18, 22, 24}) {
            fineBehind[whole] = true;
        }
        for (int n = 0; n <= text.length(); n++) {
            int last = -1;
            for (int i = 0; i < tokens.length; i++) {
                last = tokens[i] < n ? i : last;
            }
            int due = n;
            if (last >= 0) {
                int end = tokens[last] + 1;
                while (end < text.length() && isLetter(text.charAt(end - 1)) && isLetter(text.charAt(end))) {
                    end++;
                }
                boolean cut = n < end;
                due = cut ? tokens[last] : fineBehind[last] ? NONE : n;
            }
            fault(text.substring(0, n), due);
        }
    }

    private static void numbers() {
        fine("worth 0");
        fine("worth 999");
        fine("worth 1000");
        fault("worth 1001", 6);
        fault("worth 1010", 6);
        fault("worth 2000", 6);
        fault("worth 9999", 6);
        fault("worth 10000", 6);
        fine("worth 0000000000001000");
        fault("worth 0000000000001001", 6);
        fine("worth" + times("0", 395));
        fine("worth" + times("0", 391) + "1000");
        fault("worth" + times("0", 391) + "1001", 5);
        fault("worth" + times("9", 395), 5);
        // these become small ones, if they are cut to 32 or 64 bits
        fault("worth 4294967296", 6);
        fault("worth 4294967297", 6);
        fault("worth 18446744073709551616", 6);
        fault("worth 18446744073709551617", 6);
        fault("bars if 1=1001", 10);
        worth("worth 1000/1000", 1);
        worth("worth 1000-999", 1);
        worth("worth 0", 0);
        worth("worth 007", 7);
    }

    private static void parts() {
        fine("worth " + times("1+", 49) + "1");
        fault("worth " + times("1+", 50) + "1", 106);
        fault("worth " + times("1+", 50) + "base", 106);
        fault("worth " + times("1+", 50) + "1001", 106);
        fault("worth " + times("1+", 50) + "if", 106);
        fault("worth " + times("1+", 50) + ";", 106);
        fault("worth " + times("1+", 50), 106);
        fault("worth " + times("1+", 50) + "[1]", 107);
        fault("worth " + times("1+", 50) + "[[ 1]]", 109);
        fault("worth " + times("1+", 49) + "1 if 1=1", 109);
        fault("worth " + times("1+", 48) + "1 if 1=1", 109);
        fine("worth " + times("1+", 47) + "1 if 1=1");
        fault("worth " + times("1+", 47) + "1 if 1=1 or 2=2", 112);
        fine("bars if " + times("1=1 or ", 24) + "1=1");
        fault("bars if " + times("1=1 or ", 25) + "1=1", 183);
        fault("bars if " + times("1=1 or ", 24) + "1+1=1", 8 + 168 + 4);
        // the PARTS of all CLAUSES count together
        fine(times("worth 1+2+3+4+5;", 9) + "worth 1+2+3+4+5");
        fault(times("worth 1+2+3+4+5;", 9) + "worth 1+2+3+4+5+6", 160);
        fault(times("worth 1+2+3+4+5;", 10) + "worth 1", 166);
        fine(times("worth 1+2+3+4+5;", 10) + "bars;bars");
        worth("worth " + times("1+", 49) + "1", 50);
        due("the 50th PART counts", under("worth " + times("1+", 49) + "31").of(1, 2, 1), 80);
    }

    private static void partsByWords() {
        for (String word : new String[] {"host", "guest", "base", "wit", "street", "met", "evening"}) {
            int n = word.length() + 1;
            fine("worth " + times(word + "+", 49).substring(0, Math.min(49 * n, 380 / n * n)) + "1");
            String filled = "worth " + times("1+", 46) + word + "-" + word + "*" + word + "/" + word;
            fine(filled);
            fault(filled + "+1", filled.length() + 1);
            fault(filled + "+" + word, filled.length() + 1);
        }
        // brackets are no PARTS
        fine("worth " + times("[1]+", 49) + "[1]");
        fault("worth " + times("[1]+", 50) + "[1]", 6 + 200 + 1);
        fine("worth " + times("[[1]]+", 49) + "[[1]]");
    }

    private static void brackets() {
        for (int n = 0; n <= 8; n++) {
            fine("worth " + times("[", n) + "1" + times("]", n));
            fine("bars if " + times("(", n) + "1=1" + times(")", n));
            fine("bars if " + times("[", n) + "1" + times("]", n) + "=" + times("[", n) + "1" + times("]", n));
        }
        for (int n = 9; n <= 12; n++) {
            fault("worth " + times("[", n) + "1" + times("]", n), 14);
            fault("bars if " + times("(", n) + "1=1" + times(")", n), 16);
            fault("bars if " + times("[", n) + "1" + times("]", n) + "=1", 16);
        }
        fault("worth " + times("[", 8) + " [", 15);
        fault("worth " + times("[", 8), 14);
        fault("worth " + times("[", 8) + "1" + times("]", 7), 22);
        fault("worth " + times("[", 8) + "1" + times("]", 9), 23);
        fault("bars if " + times("(", 8), 16);
        fault("bars if " + times("(", 8) + "1=1" + times(")", 7), 26);
        fault("bars if " + times("(", 8) + "1=1" + times(")", 9), 27);
        // as many as one likes side by side
        String eight = times("[", 8) + "1" + times("]", 8);
        fine("worth " + times(eight + "+", 19) + eight);
        fault("worth " + eight + "+" + times("[", 9), 6 + 17 + 1 + 8);
        fine("bars if " + times("(((((((( 1=1 ))))))))or", 9) + " 1=1");
        worth("worth " + times("[", 8) + "7" + times("]", 8), 7);
        test(times("(", 8) + "1=1" + times(")", 8), true);
        test(times("not (", 8) + "1=1" + times(")", 8), true);
        test(times("not (", 7) + "1=1" + times(")", 7), false);
    }

    /** Both kinds count together; a closed one counts no more. */
    private static void bracketsOfBothKinds() {
        for (int round = 0; round <= 8; round++) {
            int square = 8 - round;
            String open = "bars if " + times("(", round) + times("[", square);
            fine(open + "1" + times("]", square) + "=1" + times(")", round));
            fault(open + "[1" + times("]", square + 1) + "=1" + times(")", round), 16);
            if (square == 0) {
                fault(open + "(1=1" + times(")", round + 1), 16);
            }
        }
        fine("bars if ((((((([1]=[1])))))))");
        fine("bars if ((((((((1=1)or 2=2))))))) and [[[[[[[[1]]]]]]]]=1");
        fault("bars if ((((((([[1]]=1)))))))", 16);
        fault("bars if ((((((([1]=[[1]])))))))", 20);
        // a CLAUSE begins outside of all
        fine("worth [[[[[[[[1]]]]]]]] if ((((((((1=1))))))));worth [[[[[[[[1]]]]]]]]");
    }

    private static void words() {
        SoleGuest x = new SoleGuest();
        for (int h = 0; h < 5; h++) {
            x.host(h == 4 ? 9 : 0);
        }
        for (int g = 0; g < 6; g++) {
            x.guest(g == 5 ? 9 : 0);
        }
        x.base(0, 0, -99);
        x.base(4, 5, 99);
        String[] texts = {"worth host", "worth guest", "worth base", "worth wit", "worth street"};
        int[] first = {0, 0, -99, 0, 0};
        int[] last = {4, 5, 99, 9, 9};
        for (int i = 0; i < texts.length; i++) {
            Bench.force(x, texts[i]);
            due(texts[i] + " of the first", x.of(0, 0, 1), first[i]);
            due(texts[i] + " of the last", x.of(4, 5, 1), last[i]);
        }
    }

    /** met and evening are 0 but in a YEAR. */
    private static void outsideOfYears() {
        SoleGuest x = Bench.street(Bench.row(7));
        Bench.force(x, "worth met*10+evening");
        x.ask(0, 0);
        due("ahead of a YEAR", x.of(0, 0, 1), 0);
        due("ahead of a YEAR", x.gain(0), 0);
        x.year(0, 5);
        due("in the YEAR: 0, 11, 22, 33, 44", x.earned(0), 60 * 110);
        due("behind a YEAR", x.of(0, 0, 1), 0);
        due("behind a YEAR", x.gain(0), 0);
        due("behind a YEAR", x.most(0), 0);
        x.year(0, 2);
        due("each YEAR begins anew", x.earned(0), 60 * 11);
    }

    private static final String MILLIARD = "1000*1000*1000";

    private static void beyond() {
        worth("worth [" + MILLIARD + "]/1000/1000/1000", 1);
        worth("worth [0-" + MILLIARD + "]/1000/1000/1000", -1);
        worth("worth " + MILLIARD, 99);
        worth("worth 0-" + MILLIARD, -99);
        worth("worth " + MILLIARD + "+1", BASE);
        worth("worth 0-" + MILLIARD + "-1", BASE);
        worth("worth 1+" + MILLIARD, BASE);
        worth("worth " + MILLIARD + "-[0-1]", BASE);
        worth("worth " + MILLIARD + "+0", 99);
        worth("worth [" + MILLIARD + "-1]+1", 99);
        worth("worth [" + MILLIARD + "-1]+2", BASE);
        worth("worth [1-" + MILLIARD + "]-1", -99);
        worth("worth [1-" + MILLIARD + "]-2", BASE);
        worth("worth " + MILLIARD + "*1", 99);
        worth("worth " + MILLIARD + "*2", BASE);
        worth("worth " + MILLIARD + "*[0-1]", -99);
        worth("worth [0-" + MILLIARD + "]*[0-1]", 99);
        worth("worth [0-" + MILLIARD + "]*2", BASE);
        worth("worth [0-" + MILLIARD + "]/[0-1]", 99);
        worth("worth " + MILLIARD + "*0", 0);
        // on the way there
        worth("worth " + MILLIARD + "+1-1000", BASE);
        worth("worth " + MILLIARD + "*2/2", BASE);
        worth("worth 1+[" + MILLIARD + "*2]*0", BASE);
        worth("worth [31*1000+622]*[31*1000+622]", 99);
        worth("worth [31*1000+623]*[31*1000+623]", BASE);
        test(MILLIARD + "+1>0", false);
        test(MILLIARD + ">0", true);
        test("not " + MILLIARD + "+1<0", false);
        test("0-" + MILLIARD + "<0", true);
        test("0-" + MILLIARD + "-1<0", false);
    }

    /** These would be small again, if they were cut to 32 or 64 bits. */
    private static void noWrapAround() {
        String two16 = "[65*1000+536]";
        worth("worth " + two16 + "*" + two16, BASE);
        worth("worth " + two16 + "*" + two16 + "*" + two16 + "*" + two16, BASE);
        worth("worth " + two16 + "*" + two16 + "+1", BASE);
        worth("worth " + MILLIARD + "+" + MILLIARD + "+" + MILLIARD + "+" + MILLIARD, BASE);
        worth("worth " + MILLIARD + "*5", BASE);
        worth("worth [" + MILLIARD + "]*[" + MILLIARD + "]", BASE);
        worth("worth [0-" + MILLIARD + "]*[" + MILLIARD + "]", BASE);
        worth("worth 1000" + times("*1000", 49), BASE);
        worth("worth 0*[1000" + times("*1000", 40) + "]", BASE);
        worth("worth " + MILLIARD + "/2*2", 99);
    }

    private static void overZero() {
        worth("worth 1/0", BASE);
        worth("worth 0/0", BASE);
        worth("worth [0-1]/0", BASE);
        worth("worth 5/[base-33]", BASE);
        worth("worth 5/[base-32]", 5);
        worth("worth 5/met", BASE);
        worth("worth 5/evening", BASE);
        worth("worth 5/[1/2]", BASE);
        worth("worth 0/5", 0);
        worth("worth 0*5/0", BASE);
        worth("worth 1+1/0-1/0", BASE);
        worth("worth [1/0]*0", BASE);
        SoleGuest x = Bench.street(Bench.row(8, 8));
        Bench.force(x, "worth 6/guest");
        due("over a GUEST's number 0", x.of(0, 0, 1), 8);
        due("over a GUEST's number 1", x.of(0, 1, 1), 6);
        Bench.force(x, "worth 6/host");
        due("over a HOST's number 0", x.of(0, 1, 1), 8);
    }

    private static void cutTowardsZero() {
        worth("worth 7/2", 3);
        worth("worth [0-7]/2", -3);
        worth("worth 7/[0-2]", -3);
        worth("worth [0-7]/[0-2]", 3);
        worth("worth 1/2", 0);
        worth("worth [0-1]/2", 0);
        worth("worth 1/1000", 0);
        worth("worth [0-999]/1000", 0);
        worth("worth [0-1000]/1000", -1);
        worth("worth 8/2", 4);
        worth("worth [0-8]/2", -4);
        worth("worth 7/2*2", 6);
        worth("worth 7*2/2", 7);
        worth("worth 0-7/2", -3);
    }

    private static void brokenTests() {
        test("1/0=1", false);
        test("1=1/0", false);
        test("1/0=1/0", false);
        test("1/0<1", false);
        test("1/0>1", false);
        test("not 1/0=1", false);
        test("not not 1/0=1", false);
        test("not (not 1/0=1)", false);
        test("(1/0=1)", false);
        test("[1/0]=1", false);
        test("1<2", true);
        test("2<2", false);
        test("3<2", false);
        test("2>1", true);
        test("2>2", false);
        test("2>3", false);
        test("2=2", true);
        test("2=1", false);
        test("2=3", false);
        test("0-2=0-2", true);
        test("0-2<0-1", true);
    }

    /** "or", "and" ask what stands behind only if it can still matter. */
    private static void orAndAnd() {
        test("1=1 or 1/0=1", true);
        test("1=2 or 1/0=1", false);
        test("not (1=2 or 1/0=1)", false);
        test("1/0=1 or 1=1", false);
        test("not (1/0=1 or 1=1)", false);
        test("1=2 and 1/0=1", false);
        test("not (1=2 and 1/0=1)", true);
        test("not (1=1 and 1/0=1)", false);
        test("not (1/0=1 and 1=2)", false);
        test("1=1 or 1=2 or 1/0=1", true);
        test("1=2 or 1=1 or 1/0=1", true);
        test("1=2 or 1=2 or 1/0=1", false);
        test("1=2 or 1/0=1 or 1=1", false);
        test("not (1=2 and 1=1 and 1/0=1)", true);
        test("not (1=1 and 1=2 and 1/0=1)", true);
        test("not (1=1 and 1=1 and 1/0=1)", false);
        test("1=2 and 1/0=1 or 1=1", true);
        test("1=1 and 1=1 or 1/0=1", true);
        test("1=1 or 1/0=1 and 1=2", true);
        test("1=1 or 1/0=1 and 1/0=1 or 1/0=1", true);
        test("(1=1 or 1/0=1) and 1=1", true);
        test("(1=1 or 1/0=1) and 1/0=1", false);
        test("(1=2 and 1/0=1) or 1=1", true);
        test("not 1=1 and 1/0=1 or not 1=2", true);
    }

    /** BROKEN is one CLAUSE alone. */
    private static void brokenClauses() {
        worth("worth 4;worth 1/0", 4);
        worth("worth 1/0;worth 4", 4);
        worth("worth 4;worth 5 if 1/0=1", 4);
        worth("worth 5 if 1/0=1;worth 4", 4);
        worth("worth 1/0 if 1=1", BASE);
        worth("worth 1/0 if 1=2", BASE);
        worth("worth 4;worth 1/0 if 1=2;worth 6 if 1=2", 4);
        worth("bars if 1/0=1;worth 4", 4);
        due("a BROKEN bars", under("bars if 1/0=1").of(1, 2, 2), 0);
        due("another behind it", under("bars if 1/0=1;bars").of(1, 2, 2), 1);
        due("another ahead of it", under("bars;bars if 1/0=1").of(1, 2, 2), 1);
        due("a BROKEN worth ahead of it", under("worth 1/0;bars").of(1, 2, 2), 1);
    }

    private static void worthBounds() {
        worth("worth 98", 98);
        worth("worth 99", 99);
        worth("worth 100", 99);
        worth("worth 1000", 99);
        worth("worth 0-98", -98);
        worth("worth 0-99", -99);
        worth("worth 0-100", -99);
        worth("worth 0-1000", -99);
        // the SUM itself is not cut
        worth("worth 1000-990", 10);
        SoleGuest x = Bench.street(Bench.row(99, -99));
        Bench.force(x, "worth base+base");
        due("99 twice", x.of(0, 0, 1), 99);
        due("-99 twice", x.of(0, 1, 1), -99);
        due("BASE as it was", x.of(0, 0, 0), 99);
        x.ask(0, 0);
        due("GAIN by the nearest", x.gain(0), 5940);
    }

    private static void lastWorth() {
        worth("worth 1;worth 2", 2);
        worth("worth 1;worth 2 if 1=2", 1);
        worth("worth 1 if 1=2;worth 2 if 1=2", BASE);
        worth("worth 1;worth 100;worth base if 1=2", 99);
        worth("worth 1;worth base", BASE);
        worth("bars", BASE);
        // each CLAUSE asks BASE itself, not what an earlier one tells
        worth("worth 1;worth base+1", BASE + 1);
        SoleGuest x = under("worth 1");
        x.force(NONE);
        due("BASE without a LAW", x.of(1, 2, 1), BASE);
    }

    private static void bars() {
        due("bars", under("bars").of(1, 2, 2), 1);
        due("bars that HOLDS ahead of one that doesn't", under("bars;bars if 1=2").of(1, 2, 2), 1);
        due("bars behind one that doesn't", under("bars if 1=2;bars").of(1, 2, 2), 1);
        due("no bars", under("worth 1").of(1, 2, 2), 0);
        due("bars that doesn't HOLD", under("bars if 1=2").of(1, 2, 2), 0);
        SoleGuest x = under("bars if host=1 and guest=2");
        x.ask(1, 2);
        due("TOLD so, he asks nobody", x.asked(2), 0);
        due("nobody comes", x.goes(2), NONE);
        due("he is alone", x.gain(1), 0);
        x.ask(0, 2);
        due("another asks him alone", x.goes(2), 0);
        due("his ANSWERS are others", x.answers(1) & 4, 0);
        x.force(NONE);
        due("TOLD all the same", x.asked(2), 2);
    }

    /** No TEXT does harm: each byte alone, and 400 of each. */
    private static void tokensOfAllBytes() {
        for (int b = 0; b <= 255; b++) {
            String sign = Bench.bytes(b);
            fault(sign, b == ' ' ? 1 : 0);
            fault(times(sign, 400), b == ' ' ? 400 : 0);
            fault("bars;" + times(sign, 395), b == ' ' ? 400 : 5);
        }
        fault("worth" + times("[", 395), 13);
        fault("bars if" + times("(", 393), 15);
        fault("bars if" + times("(", 4) + times("[", 389), 15);
        fine("bars if " + times("not ", 97) + "1=1");
        fault("bars if " + times("not ", 98), 400);
        fault("bars" + times(";", 396), 5);
        fault("worth 1" + times("+", 393), 8);
    }
}
