/** Terms, 59: THE TEXT, its letters, tokens, numbers, clauses, and where its FAULT is. */
final class GrammarTest {
    private static final String[] KINDS = {"climber", "guide", "mourner", "bank"};
    private static final String SIX = "bank 1 1 1;bank 1 1 1;bank 1 1 1;bank 1 1 1;bank 1 1 1;bank 1 1 1";
    private static final int NONE = SummitTime.NONE;
    private static final int NOT = SummitTime.NOT;

    private GrammarTest() {
    }

    public static void main(String[] args) {
        emptyText();
        oneHundredAndSixtyLetters();
        oneLetterAlone();
        letterBehindWord();
        letterBetweenDigits();
        words();
        blanks();
        noBlankNeeded();
        blankNeeded();
        endTooSoon();
        tokenInPlaceOfAnother();
        numbersOfPeople();
        numbersOfSeconds();
        digits();
        personOfDeed();
        personOfDeedIsToldAhead();
        seventhPerson();
        fourteenClauses();
        firstOfSeveralFaults();
        Check.finish();
    }

    private static void fault(String text, int place) {
        faultBehind("", text, place);
    }

    /** The text told behind an earlier one has its FAULT there, or none and is done then. */
    private static void faultBehind(String earlier, String text, int place) {
        Run run = earlier.isEmpty() ? Run.anew() : Run.told(earlier);
        run.put(text).due("fault()", place);
        run.due("count(9)", text.length());
        if (place == NONE) {
            run.due("top()", 1 + text.chars().filter(c -> c == ';').count()).due("count(9)", 0);
        } else {
            run.due("top()", NOT).due("fault()", place).due("count(9)", text.length());
        }
    }

    private static String blanks(int n) {
        return " ".repeat(n);
    }

    /** "an empty TEXT ends too soon" */
    private static void emptyText() {
        fault("", 0);
        fault(" ", 1);
        fault(blanks(160), 160);
        Run.told("top").due("fault()", 0).due("top()", NOT);
        Run.anew().put("top").due("erase()", 3).due("fault()", 0).due("top()", NOT);
    }

    /** "a row of letters, 160 at most" */
    private static void oneHundredAndSixtyLetters() {
        Run run = Run.anew();
        for (int i = 1; i <= 159; i++) {
            run.due("write(32)", i);
        }
        run.due("write(46)", 160).due("fault()", 159);
        run.due("write(32)", SummitTime.FULL).due("write(0)", SummitTime.FULL);
        run.due("count(9)", 160).due("fault()", 159).due("erase()", 160).due("write(46)", 1).due("fault()", 0);

        fault("top" + blanks(157), NONE);
        fault(blanks(157) + "top", NONE);
        fault("top;" + blanks(156), 160);
        fault(blanks(158) + "to", 158);
        fault("fog 1" + blanks(153) + "59", NONE);
        fault("fog 1" + blanks(154) + "5", NONE);
        fault("fog 1" + blanks(153) + "60", 158);
        // the 161st letter is not there: 5 is read, not 59
        Run cut = Run.anew().put("fog 1" + blanks(154) + "5").due("write(57)", SummitTime.FULL);
        cut.due("fault()", NONE).due("top()", 1).due("count(5)", 5);
    }

    private static boolean isSmall(int letter) {
        return letter >= 97 && letter <= 122;
    }

    private static boolean isDigit(int letter) {
        return letter >= 48 && letter <= 57;
    }

    /** "letter (its number, 0 .. 255)": but for blanks each is a TOKEN, and none of one letter can begin */
    private static void oneLetterAlone() {
        for (int letter = 0; letter <= 255; letter++) {
            fault("" + (char) letter, letter == 32 ? 1 : 0);
            fault("  " + (char) letter + "top", letter == 32 ? NONE : 2);
        }
        int[] outside = {-1, 256, Integer.MIN_VALUE, Integer.MAX_VALUE};
        for (int letter : outside) {
            Run.anew().due("write(" + letter + ")", SummitTime.OUTSIDE).due("count(9)", 0);
        }
        Run.anew().due("write(0)", 1).due("write(255)", 2);
    }

    /** "a row of small letters, a row of digits, any other letter" */
    private static void letterBehindWord() {
        for (int letter = 0; letter <= 255; letter++) {
            int place = isSmall(letter) ? 0 : letter == 32 ? NONE : letter == ';' ? 4 : 3;
            fault("top" + (char) letter, place);
        }
    }

    private static void letterBetweenDigits() {
        for (int letter = 0; letter <= 255; letter++) {
            String text = "fog 1" + (char) letter + "9";
            fault(text, isDigit(letter) ? 4 : letter == 32 ? NONE : 5);
        }
        // two other letters are two TOKENS: the first is at fault, then the one behind it
        fault("top..", 3);
        fault("top;..", 4);
        fault("top;;", 4);
    }

    /** "each is one of: top. climber P S R. .. clear. (As written here, without points ..)" */
    private static void words() {
        String[] whole = {"top", "clear", "fog 1 1", "deed 0 1 1", "climber 1 1 1", "guide 1 1 1",
            "mourner 1 1 1", "bank 1 1 1"};
        for (String clause : whole) {
            String word = clause.split(" ")[0];
            String rest = clause.substring(word.length());
            faultBehind("bank 1 1 1", clause, NONE);
            faultBehind("bank 1 1 1", clause + ".", clause.length());
            faultBehind("bank 1 1 1", word.substring(1) + rest, 0);
            faultBehind("bank 1 1 1", word.substring(0, word.length() - 1) + rest, 0);
            faultBehind("bank 1 1 1", word + "s" + rest, 0);
            faultBehind("bank 1 1 1", "a" + word + rest, 0);
            faultBehind("bank 1 1 1", word.toUpperCase() + rest, 0);
            faultBehind("bank 1 1 1", Character.toUpperCase(word.charAt(0)) + word.substring(1) + rest, 0);
            for (int i = 0; i < word.length(); i++) {
                String other = word.substring(0, i) + "z" + word.substring(i + 1);
                faultBehind("bank 1 1 1", other + rest, 0);
            }
        }
        fault("halve 0 1", 0);
        fault("person 1 1 1", 0);
        fault("rope 0 1", 0);
    }

    /** "blanks (32) may stand ahead of, between and behind TOKENS" */
    private static void blanks() {
        fault("   fog   1   2   ;   clear   ", NONE);
        fault("   climber   1   2   3   ;   deed   0   0   0   ", NONE);
        // a blank inside a word or a number parts it
        fault("f og 1 2", 0);
        fault("top;cle ar", 4);
        fault("fog 1 2 3", 8);
        fault("fog 5 1 0", 6);
        fault("top\n", 3);
        fault("top" + (char) 160, 3);
    }

    /** "none is needed but between two words, two numbers" */
    private static void noBlankNeeded() {
        fault("fog1 2;clear;fog3 4", NONE);
        fault("bank1 1 1;deed0 0 0", NONE);
        fault("top;top", NONE);
        fault("fog 1 2fog 3 4", 7);
        fault("fog1 2x", 6);
    }

    private static void blankNeeded() {
        fault("topclear", 0);
        fault("fog 12", 6);
        fault("climber 111", 8);
        fault("climber 11 1", 12);
        fault("top top", 4);
    }

    /** "or at the end, if it comes too soon" */
    private static void endTooSoon() {
        String[] begun = {"climber", "climber 1", "climber 1 1", "guide", "guide 1", "guide 1 1", "mourner",
            "mourner 1", "mourner 1 1", "bank", "bank 1", "bank 1 1", "deed", "deed 0", "deed 0 1", "fog", "fog 1",
            "top;", "clear;", "fog 1 1;", "bank 1 1 1;", "deed 0 1 1;"};
        for (String text : begun) {
            faultBehind("bank 1 1 1", text, text.length());
            faultBehind("bank 1 1 1", text + "   ", text.length() + 3);
            faultBehind("bank 1 1 1", "clear;" + text, text.length() + 6);
        }
    }

    /** "the first TOKEN that cannot stand there" */
    private static void tokenInPlaceOfAnother() {
        String[] begun = {"climber", "climber 1", "climber 1 1", "guide 1", "mourner 1 1", "bank", "deed",
            "deed 0", "deed 0 1", "fog", "fog 1"};
        for (String text : begun) {
            for (String wrong : new String[] {";", ".", "top", "x", "-1", "+1", ",", "001", "99", "A"}) {
                faultBehind("bank 1 1 1", text + " " + wrong, text.length() + 1);
                faultBehind("bank 1 1 1", text + " " + wrong + " 1 1 1", text.length() + 1);
            }
        }
        String[] whole = {"top", "clear", "fog 1 1", "deed 0 1 1", "guide 1 1 1"};
        for (String text : whole) {
            for (String wrong : new String[] {"top", "1", ".", "fog 1 1", "x", ",", ":"}) {
                faultBehind("bank 1 1 1", text + " " + wrong, text.length() + 1);
            }
            faultBehind("bank 1 1 1", text + ";;", text.length() + 1);
            faultBehind("bank 1 1 1", ";" + text, 0);
            faultBehind("bank 1 1 1", "1" + text, 0);
        }
    }

    /** PACE 1 .. 20, STAY 1 .. 6, RENT 0 .. 20, of each KIND; each number of 1 or 2 digits */
    private static void numbersOfPeople() {
        for (String kind : KINDS) {
            int n = kind.length() + 1;
            for (int number = 0; number <= 99; number++) {
                fault(kind + " " + number + " 1 0", number >= 1 && number <= 20 ? NONE : n);
                fault(kind + " 1 " + number + " 0", number >= 1 && number <= 6 ? NONE : n + 2);
                fault(kind + " 1 1 " + number, number <= 20 ? NONE : n + 4);
            }
        }
    }

    /** "SECONDS A .. B (0 .. 59, A .. 59)" */
    private static void numbersOfSeconds() {
        for (int from = 0; from <= 62; from++) {
            for (int to = 0; to <= 62; to++) {
                String numbers = from + " " + to;
                int second = from < 10 ? 2 : 3;
                int place = from > 59 ? 0 : to < from || to > 59 ? second : -100;
                fault("fog " + numbers, place < 0 ? NONE : 4 + place);
                faultBehind("bank 1 1 1", "deed 0 " + numbers, place < 0 ? NONE : 7 + place);
            }
        }
        fault("fog 99 99", 4);
        fault("fog 0 99", 6);
    }

    /** "numbers of 1 or 2 digits"; "of more digits, also" */
    private static void digits() {
        for (int number = 0; number <= 9; number++) {
            fault("fog 0" + number + " 59", NONE);
            fault("fog 00" + number + " 59", 4);
            fault("fog 0 0" + number, NONE);
            fault("fog 0 00" + number, 6);
        }
        fault("climber 01 01 00", NONE);
        fault("climber 00 1 1", 8);
        fault("climber 1 00 1", 10);
        fault("climber 001 1 1", 8);
        fault("climber 1 001 1", 10);
        fault("climber 1 1 001", 12);
        fault("climber 1 1 100", 12);
        faultBehind("bank 1 1 1", "deed 00 00 00", NONE);
        faultBehind("bank 1 1 1", "deed 000 0 0", 5);
        faultBehind("bank 1 1 1", "deed 0 000 0", 7);
        // numbers that would come round to one within the bounds
        fault("fog 4294967296 4294967296", 4);
        fault("fog 0 4294967297", 6);
        fault("fog 18446744073709551616 0", 4);
        fault("fog 256 1", 4);
        Run run = Run.told("climber 02 03 04;deed 00 05 06");
        run.due("person(0, 1)", 2).due("person(0, 2)", 3).due("person(0, 3)", 4);
        run.due("second(4, 0)", NONE).due("second(5, 0)", 0).due("second(6, 0)", 0).due("second(7, 0)", NONE);
    }

    /** "W's (a PERSON told)" */
    private static void personOfDeed() {
        for (int people = 0; people <= 6; people++) {
            String earlier = people == 0 ? "clear" : SIX.substring(0, 11 * people - 1);
            for (int who = 0; who <= 99; who++) {
                faultBehind(earlier, "deed " + who + " 0 59", who < people ? NONE : 5);
            }
            if (people > 0) {
                String all = earlier + ";deed " + (people - 1) + " 0 0";
                fault(all, NONE);
                fault(earlier + ";deed " + people + " 0 0", 11 * people + 5);
            }
        }
    }

    private static void personOfDeedIsToldAhead() {
        fault("deed 0 0 0;bank 1 1 1", 5);
        fault("bank 1 1 1;deed 0 0 0;bank 1 1 1", NONE);
        fault("bank 1 1 1;deed 1 0 0;bank 1 1 1", 16);
        faultBehind("bank 1 1 1", "top;deed 0 0 0", 9);
        faultBehind("bank 1 1 1", "clear;deed 0 0 0", NONE);
        faultBehind(SIX, "top;bank 1 1 1;bank 1 1 1;deed 1 0 0", NONE);
        faultBehind(SIX, "top;bank 1 1 1;bank 1 1 1;deed 2 0 0", 31);
        // a text with a FAULT tells nobody
        Run run = Run.anew().put("bank 1 1 1;hut").due("top()", NOT).due("erase()", 14);
        run.put("deed 0 0 0").due("fault()", 5);
    }

    /** "a seventh cannot stand there (at its word)" */
    private static void seventhPerson() {
        for (String kind : KINDS) {
            fault(SIX + ";" + kind + " 1 1 1", 66);
            fault(SIX + "; " + kind, 67);
            fault(SIX + ";" + kind + " 99 99 99", 66);
            faultBehind(SIX, kind + " 1 1 1", 0);
            faultBehind(SIX, kind, 0);
            faultBehind(SIX, "clear;" + kind + " 1 1 1", 6);
            faultBehind(SIX, "top;" + kind + " 1 1 1", NONE);
            faultBehind(SIX.substring(0, 54), kind + " 1 1 1", NONE);
            faultBehind(SIX.substring(0, 54), kind + " 1 1 1;" + kind + " 1 1 1", kind.length() + 7);
        }
        faultBehind(SIX, "top;" + SIX, NONE);
        faultBehind(SIX, "top;" + SIX + ";bank 1 1 1", 70);
        fault(SIX + ";top;" + SIX, NONE);
        Run.told(SIX).due("count(0)", 6).due("person(5, 0)", 3).due("person(6, 0)", SummitTime.UNKNOWN);
    }

    /** "CLAUSES with ; between, 1 to 14"; "behind the 14th no ; can stand" */
    private static void fourteenClauses() {
        StringBuilder text = new StringBuilder("top");
        for (int clauses = 1; clauses <= 14; clauses++) {
            fault(text.toString(), NONE);
            fault(text + ";", clauses < 14 ? text.length() + 1 : text.length());
            fault(text + " ; ", clauses < 14 ? text.length() + 3 : text.length() + 1);
            fault(text + ";.", clauses < 14 ? text.length() + 1 : text.length());
            fault(text + ";clear", clauses < 14 ? NONE : text.length());
            fault(text + " .", text.length() + 1);
            text.append(";top");
        }
        fault(text.toString(), 14 * 4 - 1);
        fault(text + ";top", 14 * 4 - 1);
        // other clauses are counted like these
        fault("fog 1 1;clear;fog 1 1;clear;fog 1 1;clear;fog 1 1;clear;fog 1 1;clear;fog 1 1;clear;fog 1 1;clear", NONE);
        String six = SIX + ";deed 0 0 0;deed 0 0 0;deed 0 0 0;deed 0 0 0;deed 0 0 0;fog 1 1;fog 1 1;top";
        fault(six, NONE);
        fault(six + ";top", six.length());
    }

    private static void firstOfSeveralFaults() {
        fault("hut;fog 60 60", 0);
        fault("fog 60 99;hut", 4);
        fault("fog 9 8;;", 6);
        fault("top;fog 1 2;hut;.", 12);
        fault("climber 0 0 21", 8);
        fault("climber 1 0 21", 10);
        fault("top . ;", 4);
    }
}
