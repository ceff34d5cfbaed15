/** Promises 6 to 8: THE TAPE, TOKENS, FAULTS. */
final class EdgesOfTexts {
    private static final int BAD = Checks.BAD, FULL = Checks.FULL, NONE = Checks.NONE;
    private static final int FAULTY = -1000100;
    private static final String FIVE_HANDS = "h1;h1;h1;h1;h1;", FIVE_RULES = "s1,1,1;g1,1,1;w1,1,1;l1,1,1;o1,1,1;";

    private final Checks checks;

    EdgesOfTexts(Checks checks) {
        this.checks = checks;
    }

    void run() {
        feedRefused();
        tapeFull();
        tapeEmptyThen();
        louds();
        strengths();
        rules();
        handsAtMost();
        rulesAtMost();
        figures();
        otherBytes();
        lettersByThemselves();
        ends();
        firstToken();
        leastOfOne();
        standsInPlace();
        allStays();
        latestFault();
    }

    private void reads(String text, int rules) {
        checks.due("'" + text + "'", Checks.feed(new JingleLaws(), text).camp(), rules);
    }

    private void faulty(String text, int place, int number) {
        JingleLaws x = Checks.feed(new JingleLaws(), text);
        checks.due("'" + text + "'", x.camp(), FAULTY - place);
        checks.due("fault of '" + text + "'", x.fault(), number);
        checks.due("no CAMP by '" + text + "'", x.count(1), 0);
    }

    private void feedRefused() {
        checks.says(6, "A byte (0 to 255) comes behind the tape: how many it has. BAD; FULL.");
        JingleLaws x = new JingleLaws();
        checks.all(BAD, "feed", x::feed, Checks.LEAST, -1, 256, Checks.MOST);
        checks.due("none came", x.count(7), 0);
        checks.due("0", x.feed(0), 1);
        checks.due("255", x.feed(255), 2);
        checks.due("they came", x.count(7), 2);
        JingleLaws y = new JingleLaws();
        for (char letter : "f10;h1;s1,1,1;".toCharArray()) {
            y.feed(letter);
            y.feed(letter + 256);
            y.feed(letter - 256);
        }
        checks.due("what was BAD did not come", y.camp(), 1);
    }

    private void tapeFull() {
        checks.says(0, "THE TAPE has at most 120 bytes");
        // No CAMP is longer than this one: 74 bytes, with a figure 0 ahead of each LOSS.
        String longest = "f60;h20;h20;h20;h20;h20;s60,09,63;g60,09,63;w60,09,63;l60,09,63;o60,09,63;";
        JingleLaws x = Checks.feed(new JingleLaws(), longest);
        checks.due("bytes", x.count(7), 74);
        for (int n = 75; n <= 119; n++) {
            checks.due("byte", x.feed('x'), n);
        }
        checks.due("119", x.count(7), 119);
        checks.due("the 120th", x.feed('x'), 120);
        checks.due("the 121st", x.feed('s'), FULL);
        checks.due("BAD ahead of FULL", x.feed(-1), BAD);
        checks.due("BAD ahead of FULL", x.feed(256), BAD);
        checks.due("120", x.count(7), 120);
        checks.due("read up to the first FAULT", x.camp(), FAULTY - 74);
        checks.due("none more", x.count(7), 0);
        checks.due("there is room again", x.feed('f'), 1);
        reads(longest, 5);
        JingleLaws y = new JingleLaws();
        for (int n = 0; n < 130; n++) {
            y.feed(n == 0 ? 'f' : '1');
        }
        checks.due("119 figures", y.camp(), FAULTY - 1);
    }

    private void tapeEmptyThen() {
        checks.says(7, "The tape, empty then, is read: how many RULES there are.");
        JingleLaws x = Checks.feed(new JingleLaws(), "f10;h1;s1,1,1;");
        checks.due("1", x.camp(), 1);
        checks.due("empty", x.count(7), 0);
        checks.due("no byte", x.camp(), FAULTY);
        Checks.feed(x, "x").camp();
        checks.due("empty with a FAULT, too", x.count(7), 0);
        for (int rules = 1; rules <= 5; rules++) {
            checks.due("RULES", Checks.feed(x, "f10;h1;" + FIVE_RULES.substring(0, 7 * rules)).camp(), rules);
            checks.due("RULES", x.count(1), rules);
        }
    }

    private void louds() {
        checks.says(0, "law: f LOUD ; (10 to 60)");
        String rest = ";h1;s1,1,1;";
        for (String loud : new String[] {"0", "1", "9", "00", "09", "61", "70", "99"}) {
            faulty("f" + loud + rest, 1, 2);
        }
        for (int loud : new int[] {10, 11, 59, 60}) {
            checks.due("LOUD", Checks.told("f" + loud + rest).stand(4), loud);
        }
    }

    private void strengths() {
        checks.says(0, "hand: h STRENGTH ; (0 to 20; HANDS 0 .. 4, 5 at most, in a round)");
        for (String strength : new String[] {"21", "30", "99"}) {
            faulty("f10;h" + strength + ";s1,1,1;", 5, 2);
            faulty("f10;h1;h" + strength + ";s1,1,1;", 8, 2);
        }
        String[] texts = {"0", "00", "1", "01", "19", "20"};
        int[] due = {0, 0, 1, 1, 19, 20};
        for (int k = 0; k < texts.length; k++) {
            JingleLaws x = Checks.told("f10;h" + texts[k] + ";s1,1,1;");
            checks.due("STRENGTH " + texts[k], x.hand(0, 0), due[k]);
        }
    }

    private void rules() {
        checks.says(0, "0 to LOUD; 1 to 9; a set of THINGS 0 .. 5, as bits: 0 to 63; RULES 0 .. 4, 5 at most");
        for (char sort : "sgwlo".toCharArray()) {
            faulty("f10;h1;" + sort + "11,1,1;", 8, 2);
            faulty("f60;h1;" + sort + "61,1,1;", 8, 2);
            faulty("f10;h1;" + sort + "1,0,1;", 10, 2);
            faulty("f10;h1;" + sort + "1,00,1;", 10, 2);
            faulty("f10;h1;" + sort + "1,10,1;", 10, 2);
            faulty("f10;h1;" + sort + "1,1,64;", 12, 2);
            faulty("f10;h1;" + sort + "1,1,99;", 12, 2);
            JingleLaws x = Checks.told("f10;h1;" + sort + "0,1,0;" + sort + "10,9,63;" + sort + "00,09,00;");
            int[] due = {0, 1, 0, 10, 9, 63, 0, 9, 0};
            for (int k = 0; k < due.length; k++) {
                checks.due(sort + ": rule " + k / 3 + " " + k % 3, x.rule(k / 3, k % 3), due[k]);
            }
            checks.due("as loud as it is", Checks.told("f60;h1;" + sort + "60,1,0;").rule(0, 0), 60);
        }
        faulty("f59;h1;s60,1,1;", 8, 2);
    }

    private void handsAtMost() {
        checks.says(0, "3 a hand, a rule more than there is room for (its letter)");
        reads("f10;" + FIVE_HANDS + "s1,1,1;", 1);
        checks.due("five", Checks.told("f10;" + FIVE_HANDS + "s1,1,1;").count(2), 5);
        checks.due("one", Checks.told("f10;h1;s1,1,1;").count(2), 1);
        faulty("f10;" + FIVE_HANDS + "h1;s1,1,1;", 19, 3);
        faulty("f10;" + FIVE_HANDS + "h", 19, 3);
        faulty("f10;" + FIVE_HANDS + "h99;", 19, 3);
        faulty("f10;" + FIVE_HANDS + "hx", 19, 3);
        faulty("f10;h20;h20;h20;h20;h20;h20;s1,1,1;", 24, 3);
        // Fewer than one: a hand must stand there.
        faulty("f10;s1,1,1;", 4, 1);
    }

    private void rulesAtMost() {
        reads("f10;h1;" + FIVE_RULES, 5);
        for (char sort : "sgwlo".toCharArray()) {
            faulty("f10;h1;" + FIVE_RULES + sort + "1,1,1;", 42, 3);
            faulty("f10;h1;" + FIVE_RULES + sort, 42, 3);
            faulty("f10;h1;" + FIVE_RULES + sort + "99", 42, 3);
        }
        faulty("f10;" + FIVE_HANDS + FIVE_RULES + "s1,1,1;", 54, 3);
        faulty("f10;h1;", 7, 1);
    }

    private void figures() {
        checks.says(0, "NUMBERS (figures, 2 at most)");
        checks.says(0, "a run of three figures, at its first");
        faulty("f010;h1;s1,1,1;", 1, 1);
        faulty("f100;", 1, 1);
        faulty("f0010;", 1, 1);
        faulty("f10;h001;s1,1,1;", 5, 1);
        faulty("f10;h000;s1,1,1;", 5, 1);
        faulty("f10;h1;s001,1,1;", 8, 1);
        faulty("f10;h1;s1,001,1;", 10, 1);
        faulty("f10;h1;s1,1,001;", 12, 1);
        faulty("f10;h1;s1,1,063;", 12, 1);
        faulty("f10;h1;s1,1,1000000000000;", 12, 1);
        faulty("123", 0, 1);
        faulty("f10;123", 4, 1);
        faulty("f10;h1;s1,1,1;123", 14, 1);
        // The end comes behind the run.
        faulty("f100", 1, 1);
        faulty("f10;h1;s1,1,100", 12, 1);
        // Two NUMBERS are none together: a sign must part them.
        faulty("f1 0;", 1, 2);
        faulty("f10;h1 0;", 6, 1);
    }

    /** Each byte but the due one, at the place of each letter and sign. */
    private void otherBytes() {
        checks.says(0, "SIGNS , and ; nothing else");
        checks.says(0, "1 it cannot stand there, or is none");
        String text = "f10;h1;s1,1,1;";
        for (int other = 0; other <= 255; other++) {
            if (other != 'f') {
                dueOther(text, 0, other);
            }
            if (other != 'h') {
                dueOther(text, 4, other);
            }
            if ("sgwloh".indexOf(other) < 0) {
                dueOther(text, 7, other);
            }
            if (other < '0' || other > '9') {
                dueOther(text, 1, other);
                dueOther(text, 5, other);
                dueOther(text, 8, other);
                dueOther(text, 10, other);
                dueOther(text, 12, other);
                dueSigns(text, other);
            }
            // Behind a whole CAMP just a rule can begin.
            faulty(text + (char) other, "sgwlo".indexOf(other) < 0 ? 14 : 15, 1);
        }
    }

    private void dueSigns(String text, int other) {
        for (int place : new int[] {3, 6, 9, 11, 13}) {
            if (other != text.charAt(place)) {
                dueOther(text, place, other);
            }
        }
    }

    private void dueOther(String text, int place, int other) {
        StringBuilder spoiled = new StringBuilder(text);
        spoiled.setCharAt(place, (char) other);
        faulty(spoiled.toString(), place, 1);
    }

    private void lettersByThemselves() {
        checks.says(0, "letters a to z (each by itself)");
        faulty("ff10;", 1, 1);
        faulty("f10;hh1;", 5, 1);
        faulty("f10;h1;sg1,1,1;", 8, 1);
        faulty("F10;", 0, 1);
        faulty("f10;H1;", 4, 1);
        faulty("f10;h1;S1,1,1;", 7, 1);
        faulty("f10;h1;h1,", 9, 1);
        faulty("f10;h1;s1;", 9, 1);
        faulty("f10;h1;s1,1;", 11, 1);
        faulty("f10;h1;s1,1,1,", 13, 1);
        faulty("f10;h1;s1,1,1;;", 14, 1);
        faulty("f10;;", 4, 1);
        faulty("f,10;", 1, 1);
    }

    private void ends() {
        checks.says(0, "the end: how many bytes there are");
        String text = "f30;h5;h20;s9,2,3;g30,9,63;";
        for (int n = 0; n < text.length(); n++) {
            // Behind 'f3' it is the 3 that is too little; behind 18 bytes there is a whole CAMP.
            if (n != 2 && n != 18) {
                faulty(text.substring(0, n), n, 1);
            }
        }
        faulty("f3", 1, 2);
        reads(text.substring(0, 18), 1);
        reads(text, 2);
        faulty("f60;h20;h20;h20;h20;h20;s60,09,63;g60,09,63;w60,09,63;l60,09,63;o60,09,63", 73, 1);
    }

    private void firstToken() {
        checks.says(0, "FAULTS, the first TOKEN that has one (its first byte)");
        faulty("f61;h21;s1,0,64;", 1, 2);
        faulty("f10;h21;s1,0,64;x", 5, 2);
        faulty("f10;h1;s11,0,64;x", 8, 2);
        faulty("f10;h1;s1,10,64;x", 10, 2);
        faulty("f10;h1;s1,1,64x", 12, 2);
        faulty("f10;h1;s1,1,1x064", 13, 1);
        faulty("f99 ", 1, 2);
    }

    private void leastOfOne() {
        checks.says(0, "of one TOKEN the least");
        // A NUMBER that cannot stand there and is not as told, a hand that cannot stand there and has no room.
        faulty("99f", 0, 1);
        faulty("f10;h1;99", 7, 1);
        faulty("f10;" + FIVE_HANDS + "s1,1,1;h1;", 26, 1);
        faulty("f10;" + FIVE_HANDS + FIVE_RULES + "h1;", 54, 1);
        faulty("f10;" + FIVE_HANDS + FIVE_RULES + "f", 54, 1);
        faulty("f10;" + FIVE_HANDS + FIVE_RULES + "99", 54, 1);
        faulty("f999;", 1, 1);
        faulty("f10;h1;s1,1,999;", 12, 1);
    }

    private void standsInPlace() {
        checks.says(0, "stands in place of the one before (none at first): HOUR 0, no HAND plays any; "
            + "no ACT can be undone");
        JingleLaws x = Checks.told("f60;" + FIVE_HANDS + FIVE_RULES);
        for (int h = 0; h < 5; h++) {
            x.play(h, h);
        }
        x.hours(7);
        checks.due("another", Checks.feed(x, "f10;h3;h4;w2,3,4;").camp(), 1);
        checks.due("HOUR", x.count(3), 0);
        checks.due("plays", x.hand(0, 1), NONE);
        checks.due("plays", x.hand(1, 1), NONE);
        checks.due("ACTS", x.count(6), 0);
        checks.due("undo", x.undo(), Checks.STATE);
        checks.due("LOUD", x.stand(4), 10);
        checks.due("HANDS", x.count(2), 2);
        checks.due("a HAND of the one before", x.hand(2, 0), BAD);
        checks.due("a RULE of the one before", x.rule(1, 0), BAD);
        checks.due("BEAT", x.count(4), 2);
        checks.due("STRENGTH", x.count(5), 7);
        checks.due("a greater one again", Checks.feed(x, "f60;" + FIVE_HANDS + FIVE_RULES).camp(), 5);
        for (int h = 0; h < 5; h++) {
            checks.due("no HAND plays any", x.hand(h, 1), NONE);
        }
    }

    private void allStays() {
        checks.says(7, "-1000100 less the place of a FAULT: all stays.");
        JingleLaws x = Checks.told("f20;h3;h4;w12,1,4;");
        x.play(1, 0);
        x.hours(2);
        // Each of these goes as far as it can before its FAULT.
        String[] texts = {"", "f60", "f60;h20;", "f60;h20;h20;h20;h20;h20;h", "f60;h20;s60,9,63;o60,9,63;l60,9,64;"};
        for (String text : texts) {
            Checks.feed(x, text).camp();
            checks.due("LOUD", x.stand(4), 20);
            checks.due("HOUR", x.count(3), 2);
            checks.due("RULES", x.count(1), 1);
            checks.due("HANDS", x.count(2), 2);
            checks.due("KIND", x.kind(0), 3);
            checks.due("BEAT", x.rule(0, 0), 14);
            checks.due("LOSS", x.rule(0, 1), 1);
            checks.due("BARS", x.rule(0, 2), 4);
            checks.due("STRENGTH", x.hand(0, 0), 7);
            checks.due("STRENGTH", x.hand(1, 0), 2);
            checks.due("plays", x.hand(1, 1), 0);
            checks.due("ACTS", x.count(6), 3);
        }
        checks.due("undo", x.undo(), 2);
        checks.due("HOUR", x.count(3), 1);
    }

    private void latestFault() {
        checks.says(8, "The number of the latest FAULT; 0 before one.");
        JingleLaws x = new JingleLaws();
        checks.due("before one", x.fault(), 0);
        Checks.feed(x, "f10;h1;s1,1,1;").camp();
        checks.due("before one", x.fault(), 0);
        String[] texts = {"f9;", "x", "f10;" + FIVE_HANDS + "h", "f10;h1;s1,1,64;"};
        int[] due = {2, 1, 3, 2};
        for (int k = 0; k < texts.length; k++) {
            Checks.feed(x, texts[k]).camp();
            checks.due("'" + texts[k] + "'", x.fault(), due[k]);
            checks.due("once more", x.fault(), due[k]);
        }
        Checks.feed(x, "f10;h1;s1,1,1;").camp();
        checks.due("the latest, though a CAMP was read", x.fault(), 2);
        x.feed(256);
        x.hours(0);
        checks.due("the latest, though a call was refused", x.fault(), 2);
    }
}
