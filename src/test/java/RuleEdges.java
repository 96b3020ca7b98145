/** Boundary cases of the text of rules: at every place, what can stand there and what can't. */
final class RuleEdges {
    private static final String EIGHT = "0:1-1;1:1-1;2:1-1;3:1-1;4:1-1;5:1-1;6:1-1;7:1-1;";
    private static final String NINE = EIGHT + "8:1-1";
    private static final String KINDS = "012345678";
    private static final String DIGITS = "0123456789";

    private final Sentences s;

    RuleEdges(Sentences s) {
        this.s = s;
    }

    void all() {
        kindsOfClauses();
        signsBetweenClauses();
        oneToFourSpans();
        oneToThreeDigits();
        nineClauses();
        theFirstFault();
        everySignOfAClause();
        everySignOfANumber();
        theEnd();
        kindNine();
        secondBelowFirst();
        above255();
        askedWhenDigitsEnd();
        aTenthClause();
        placesAbove99();
        theyStay();
    }

    private void answers(String text, int want) {
        RoadCounts x = new RoadCounts();
        s.due("'" + text + "'", Check.rules(x, text), want);
        s.due("'" + text + "' leaves no tape", x.tell(3), 0);
    }

    /** Every byte behind a start: a fault 1 there, but for those that can stand. */
    private void onlyThese(String start, String canStand) {
        for (int sign = 0; sign < 256; sign++) {
            if (canStand.indexOf(sign) < 0) {
                answers(start + (char) sign, 100 + start.length());
                answers(start + (char) sign + "9", 100 + start.length());
            }
        }
    }

    private void these(String start, String signs, int want) {
        for (int i = 0; i < signs.length(); i++) {
            answers(start + signs.charAt(i), want);
        }
    }

    private void kindsOfClauses() {
        s.terms("KINDS 0 to 8 are told by RULES");
        for (int kind = 0; kind <= 8; kind++) {
            answers(kind + ":1-1", 0);
            answers("0:1-1;" + kind + ":1-1", 0);
        }
        answers("9:1-1", 200);
    }

    private void signsBetweenClauses() {
        s.terms("CLAUSES with a ; (59) between two, no blanks");
        answers("0:1-1;1:2-2", 0);
        answers("0:1-1,1:2-2", 107);
        answers("0:1-11:2-2", 106);
        answers(";0:1-1", 100);
        answers("0:1-1;", 106);
        answers("0:1-1;;0:1-1", 106);
        answers(" 0:1-1", 100);
        answers("0 :1-1", 101);
        answers("0: 1-1", 102);
        answers("0:1 -1", 103);
        answers("0:1- 1", 104);
        answers("0:1-1 ", 105);
        answers("0:1-1 ;0:1-1", 105);
        answers("0:1-1; 0:1-1", 106);
        answers("0:1-1, 1-1", 106);
    }

    private void oneToFourSpans() {
        s.terms("SPANS of GAPS with a , (44) between two (one to four)");
        answers("0:", 102);
        answers("0:;1:1-1", 102);
        String text = "0:1-1";
        for (int n = 1; n <= 4; n++) {
            answers(text, 0);
            answers(text + ";1:2-2", 0);
            answers(text + ",", text.length() + (n < 4 ? 101 : 100));
            text += ",1-1";
        }
        answers(text, 117);
        answers("1:2-2;" + text, 123);
        answers("0:,1-1", 102);
        answers("0:1-1,,1-1", 106);
    }

    private void oneToThreeDigits() {
        s.terms("two numbers of one to three digits with a - (45) between.");
        String[] numbers = {"", "0", "1", "00", "12", "000", "001", "123", "255", "0001", "1234"};
        for (String number : numbers) {
            int digits = number.length();
            answers("0:" + number + "-255", digits == 0 ? 102 : digits > 3 ? 105 : 0);
            answers("0:0-" + number, digits == 0 ? 104 : digits > 3 ? 107 : 0);
        }
        answers("0:1--1", 104);
        answers("0:1-1-1", 105);
        answers("0:1", 103);
    }

    private void nineClauses() {
        s.terms("At most 9 CLAUSES.");
        RoadCounts x = new RoadCounts();
        StringBuilder text = new StringBuilder();
        for (int n = 1; n <= 9; n++) {
            text.append(n == 1 ? "" : ";").append("5:1-1");
            s.due("clauses " + n, Check.rules(x, text.toString()), 0);
            s.due("told", x.tell(2), n);
        }
        s.due("ten", Check.rules(x, text + ";5:1-1"), 454);
        s.due("nine stay", x.tell(2), 9);
    }

    private void theFirstFault() {
        s.terms("FAULTS, the first from the left");
        answers("x9:2-1", 100);
        answers("9:2-1;x", 200);
        answers("0:2-1;9:1-1", 304);
        answers("0:256-1x", 302);
        answers("0:256-1", 302);
        answers("0:1-256,2-1", 304);
        answers("0:1-1x;9:1-1", 105);
        answers("0:1-1;9:256-1", 206);
        answers("0:1-1,2-1,256-1", 308);
        answers(EIGHT + "9:1-1;0:1-1", 248);
        answers(EIGHT + "8:2-1;0:1-1", 352);
        answers(EIGHT + "8:1-1x0:1-1", 153);
        answers(EIGHT + "8:1-1;0:2-1", 454);
    }

    private void everySignOfAClause() {
        s.terms("1 what can't stand there");
        onlyThese("", DIGITS);
        these("", KINDS, 101);
        onlyThese("3", ":");
        answers("3:", 102);
        onlyThese("3:", DIGITS);
        these("3:", DIGITS, 103);
        onlyThese("3:1-", DIGITS);
        these("3:1-", "123456789", 0);
        onlyThese("3:1-1;", DIGITS);
        these("3:1-1;", KINDS, 107);
        onlyThese("3:1-1,", DIGITS);
        these("3:1-1,", DIGITS, 107);
        onlyThese("3:1-1,2-2,3-3,4-4", DIGITS + ";");
        these("3:1-1,2-2,3-3,4-4", DIGITS, 0);
        answers("3:1-1,2-2,3-3,4-4;", 118);
        onlyThese("3:1-1,2-2,3-3,4-4;", DIGITS);
    }

    private void everySignOfANumber() {
        onlyThese("3:1", DIGITS + "-");
        these("3:1", DIGITS + "-", 104);
        onlyThese("3:11", DIGITS + "-");
        these("3:11", DIGITS + "-", 105);
        onlyThese("3:111", "-");
        answers("3:111-", 106);
        onlyThese("3:1-1", DIGITS + ",;");
        these("3:1-1", DIGITS, 0);
        these("3:1-1", ",;", 106);
        onlyThese("3:1-11", DIGITS + ",;");
        these("3:1-11", DIGITS, 0);
        these("3:1-11", ",;", 107);
        onlyThese("3:1-111", ",;");
        these("3:1-111", ",;", 108);
        onlyThese("3:000", "-");
        onlyThese("3:0-000", ",;");
    }

    private void theEnd() {
        s.terms("(the end, a fourth digit, a , behind four SPANS, too)");
        String whole = "0:1-123,4-5;8:1-2";
        for (int n = 1; n <= whole.length(); n++) {
            boolean canEnd = n >= 5 && n <= 7 || n == 11 || n == 17;
            answers(whole.substring(0, n), canEnd ? 0 : 100 + n);
        }
        answers("0:0000-1", 105);
        answers("0:1-0001", 107);
        answers("0:1-1,1-1,1-1,1-1,", 117);
        answers("0:1-1,1-1,1-1,1-1,2-2;9", 117);
    }

    private void kindNine() {
        s.terms("2 KIND 9");
        answers("9", 200);
        answers("9x", 200);
        answers("99:1-1", 200);
        answers("0:1-1;9", 206);
        answers(EIGHT + "9:1-1", 248);
        answers("09:1-1", 101);
    }

    private void secondBelowFirst() {
        s.terms("3 a SPAN's second number below the first");
        answers("0:5-4", 304);
        answers("0:5-5", 0);
        answers("0:5-6", 0);
        answers("0:255-254", 306);
        answers("0:255-255", 0);
        answers("0:1-0", 304);
        answers("0:0-0", 0);
        answers("0:010-9", 306);
        answers("0:010-09", 306);
        answers("0:9-010", 0);
        answers("0:1-1,2-2,3-3,4-3", 316);
        answers("0:9-9,1-1", 0);
        answers("0:1-1;0:9-8", 310);
        answers("0:5-4,6-6", 304);
        answers("0:5-4;x", 304);
        answers("0:5-4x", 304);
    }

    private void above255() {
        s.terms("or a number above 255, at that number's first digit");
        for (int n = 250; n <= 260; n++) {
            answers("0:" + n + "-255", n > 255 ? 302 : 0);
            answers("0:1-" + n, n > 255 ? 304 : 0);
            answers("0:1-1,1-1,1-1," + n + "-255", n > 255 ? 314 : 0);
            answers("0:1-1,1-1,1-1,1-" + n, n > 255 ? 316 : 0);
        }
        answers("0:999-999", 302);
        answers("0:256", 302);
        answers("0:256x", 302);
        answers("0:1-256x", 304);
    }

    private void askedWhenDigitsEnd() {
        s.terms("(asked when its digits end)");
        answers("0:5-42", 0);
        answers("0:50-4", 305);
        answers("0:50-49", 305);
        answers("0:50-499", 305);
        answers("0:50-123", 0);
        answers("0:2560-1", 105);
        answers("0:1-2560", 107);
        answers("0:500-1000", 302);
        answers("0:200-1000", 109);
        answers("0:200-0199", 109);
        onlyInNumbers("0:256", 302, 105);
        onlyInNumbers("0:2-1", 304, 0);
        onlyInNumbers("0:1-256", 304, 107);
    }

    /** Behind a number that is wrong as it stands, a digit answers otherwise, all else asks it. */
    private void onlyInNumbers(String start, int asked, int byDigit) {
        for (int sign = 0; sign < 256; sign++) {
            boolean digit = DIGITS.indexOf(sign) >= 0;
            answers(start + (char) sign, digit ? byDigit : asked);
        }
        answers(start, asked);
    }

    private void aTenthClause() {
        s.terms("4 a tenth CLAUSE, at its first sign.");
        answers(NINE, 0);
        these(NINE + ";", DIGITS, 454);
        answers(NINE + ";0:1-1", 454);
        answers(NINE + ";0x", 454);
        answers(NINE + ";0:1-1;0:1-1", 454);
        // a sign with which no clause can begin is no tenth clause
        answers(NINE + ";", 154);
        onlyThese(NINE + ";", DIGITS);
        onlyThese(NINE, DIGITS + ",;");
    }

    /** A place may have three digits, up to the end of a full tape. */
    private void placesAbove99() {
        s.promise(18, "a FAULT: 100 times its number and its place");
        String clause = "0:100-200,100-200,100-200,100-200;";
        String three = clause + clause + clause;
        answers(three + "0:10-200,10-20,1-2", 0);
        answers(three + "0:100-200,100-200,", 220);
        answers(three + "0:100-200,100-200;", 220);
        answers(three + "0:100-200,100-200x", 219);
        answers(three + "0:100-200,100-2009", 219);
        answers(three + "0:10-200,100-256", 415);
        answers(three + "0:10-200,100-9", 415);
        answers(three + "9", 302);
        answers(three + "0:1-1;9", 308);
        String nine = "0:100-200,1-2;0:100-200,1-2;0:100-200,1-2;0:100-200,1-2;0:100-200,1-2;0:100-200,1-2;"
            + "0:100-200,1-2;0:1-2;0:1-2;";
        answers(nine + "0:1-1", 400 + nine.length());
    }

    private void theyStay() {
        s.promise(18, "a FAULT: 100 times its number and its place (they stay)");
        String[] wrong = {"x", "7:9-9x", "7:9-9;9", "7:9-9,9-8", "7:9-9;7:300-1", NINE + ";0:1-1", "7:9-9;"};
        RoadCounts x = new RoadCounts();
        x.road(0, 1, 0);
        Check.rules(x, "3:9-9;4:5-5,6-6");
        for (int i = 0; i < wrong.length; i++) {
            s.due("a fault", Check.rules(x, wrong[i]) >= 100, true);
            s.due("two clauses stay", x.tell(2), 2);
            Check.pass(x, 0, 9, 0, 5, 6, 0, 1);
            s.due("the first is the same", x.kinds(0, 3), 1 + i);
            s.due("the second is the same", x.kinds(0, 4), 1 + i);
            s.due("none else", x.kinds(0, 7) + x.kinds(0, 9), 1 + i);
        }
        s.due("then others come", Check.rules(x, "7:9-9"), 0);
        Check.pass(x, 0, 9);
        s.due("they tell", x.kinds(0, 7), 1);
    }
}
