/** Part 1 of the terms: ROOMS, MOTHERS, WORKS, LIFE, and the text that tells them. */
final class RoomsSentences {
    private static final String FULL_TOWN = "a1;a2;a3;a4;a5;a6;w0 1;w0 2;w0 3;w0 4;w0 5;m6;l99;";

    private RoomsSentences() {
    }

    static void all() {
        rooms();
        mothers();
        works();
        life();
        lettersAtMost();
        toldLetterByLetter();
        blanks();
        blanksBetweenNumbers();
        noItems();
        itemsAreEnded();
        whatItemsTell();
        onceAtMost();
        tokens();
        firstThatCannotStand();
        oneTooMany();
        againOrBeyond();
        otherLetters();
        numbersAbove99();
        endsTooEarly();
    }

    private static void rooms() {
        Doc.says("Terms", "(6 at most): how OLD at first (0 .. 99).");
        RoomBorn x = Check.town("a0;a99;a1;a50;a7;a98;");
        int[] old = {0, 99, 1, 50, 7, 98};
        for (int r = 0; r < 6; r++) {
            Check.due("room(" + r + ", 0)", old[r], x.room(r, 0));
        }
        Check.due("count(0) of six", 6, x.count(0));
        Check.due("a seventh", -28, Check.told("a0;a0;a0;a0;a0;a0;a0;"));
        Check.due("below 0", -11, Check.told("a-1;"));
        Check.due("above 99", -11, Check.told("a100;"));
        RoomBorn none = Check.town("m1;");
        Check.due("count(0) of none", 0, none.count(0));
        Check.due("room(0, 0) of none", -1, none.room(0, 0));
        Check.due("room(0, 0) of one", 0, Check.town("a0;").room(0, 0));
        Check.due("room(1, 0) of one", -1, Check.town("a0;").room(1, 0));
    }

    private static void mothers() {
        Doc.says("Terms", "MOTHERS 0 .. as many as are told less 1 (1 .. 6; 3 at first): each has one CHILD, of her number.");
        for (int many = 1; many <= 6; many++) {
            RoomBorn x = Check.town("a5;m" + many + ";");
            Check.due("count(1) of " + many, many, x.count(1));
            Check.due("the last one bears", 5, x.bears(many - 1, 0));
            Check.due("a child of her number", 1 << many - 1, x.now(2));
            Check.due("one child alone", -2, x.bears(many - 1, 0));
            Check.due("child(" + many + ", 0) of " + many, -1, x.child(many, 0));
            Check.due("bears(" + many + ", 0) of " + many, -1, x.bears(many, 0));
        }
        Check.due("none", -11, Check.told("m0;"));
        Check.due("seven", -11, Check.told("m7;"));
        for (RoomBorn x : new RoomBorn[] {new RoomBorn(), Check.town(""), Check.town("a5;")}) {
            Check.due("count(1) at first", 3, x.count(1));
            Check.due("child(2, 0) at first", 0, x.child(2, 0));
            Check.due("child(3, 0) at first", -1, x.child(3, 0));
        }
    }

    private static void works() {
        Doc.says("Terms", "WORKS 0 .. (5 at most): from LOW to HIGH (0 .. 99, LOW no more than HIGH).");
        RoomBorn x = Check.town("w0 0;w99 99;w0 99;w1 2;w98 99;");
        int[] low = {0, 99, 0, 1, 98};
        int[] high = {0, 99, 99, 2, 99};
        for (int w = 0; w < 5; w++) {
            Check.due("work(" + w + ", 0)", low[w], x.work(w, 0));
            Check.due("work(" + w + ", 1)", high[w], x.work(w, 1));
        }
        Check.due("count(2) of five", 5, x.count(2));
        Check.due("work(5, 0) of five", -1, x.work(5, 0));
        Check.due("a sixth", -35, Check.told("w0 0;w0 0;w0 0;w0 0;w0 0;w0 0;"));
        Check.due("count(2) of none", 0, Check.town("a1;").count(2));
        Check.due("work(0, 0) of none", -1, Check.town("a1;").work(0, 0));
        Check.due("LOW like HIGH", 1, Check.told("w50 50;"));
        Check.due("LOW one more than HIGH", -14, Check.told("w50 49;"));
        Check.due("LOW 1, HIGH 0", -13, Check.told("w1 0;"));
        Check.due("LOW below 0", -11, Check.told("w-1 5;"));
        Check.due("LOW above 99", -11, Check.told("w100 100;"));
        Check.due("HIGH above 99", -13, Check.told("w0 100;"));
    }

    private static void life() {
        Doc.says("Terms", "LIFE (10 .. 99; 70 at first).");
        Check.due("the shortest", 10, Check.town("l10;").count(3));
        Check.due("the longest", 99, Check.town("l99;").count(3));
        Check.due("9", -11, Check.told("l9;"));
        Check.due("0", -11, Check.told("l0;"));
        Check.due("100", -11, Check.told("l100;"));
        Check.due("at first", 70, new RoomBorn().count(3));
        Check.due("not told", 70, Check.town("a5;").count(3));
        RoomBorn x = Check.town("m3;a69;a70;");
        x.bears(0, 0);
        x.bears(1, 1);
        Check.due("who lives at first", 1, x.now(1));
    }

    private static void lettersAtMost() {
        Doc.says("Terms", "They are a text (120 letters at most),");
        RoomBorn x = new RoomBorn();
        Check.type(x, "a5" + " ".repeat(117));
        Check.due("count(5) of 119", 119, x.count(5));
        Check.due("the 120th", 120, x.type(';'));
        Check.due("the 121st", -3, x.type(';'));
        Check.due("count(5) of 120", 120, x.count(5));
        Check.due("all 120 are read", 1, x.town());
        RoomBorn y = new RoomBorn();
        Check.type(y, "a5" + " ".repeat(118));
        Check.due("the 121st of a text without an end", -3, y.type(';'));
        Check.due("it has not come to it", -130, y.town());
        Check.due("clear() makes room", 120, y.clear());
        Check.due("type('a')", 1, y.type('a'));
    }

    private static void toldLetterByLetter() {
        Doc.says("Terms", "told letter by letter,");
        RoomBorn x = new RoomBorn();
        for (int i = 0; i < FULL_TOWN.length(); i++) {
            Check.due("letter " + i, i + 1, x.type(FULL_TOWN.charAt(i)));
            Check.due("nothing is told yet", 0, x.count(0) + x.count(2));
        }
        Check.due("town()", 13, x.town());
        Check.due("count(0)", 6, x.count(0));
        Check.due("count(2)", 5, x.count(2));
    }

    private static void blanks() {
        Doc.says("Terms", "blanks (32), any number, ahead of, between, behind TOKENS");
        String[] tokens = {"a", "12", ";", "w", "3", "45", ";", "m", "6", ";", "l", "60", ";"};
        for (int many = 0; many <= 7; many++) {
            for (int place = 0; place <= tokens.length; place++) {
                StringBuilder text = new StringBuilder();
                for (int i = 0; i < tokens.length; i++) {
                    text.append(i == place ? " ".repeat(many) : i == 5 ? " " : "").append(tokens[i]);
                }
                text.append(place == tokens.length ? " ".repeat(many) : "");
                boolean parted = many > 0 || place != 5;
                Check.due(many + " blanks ahead of token " + place, parted ? 4 : -15, Check.told(text.toString()));
            }
        }
        Check.due("117 ahead", 1, Check.told(" ".repeat(117) + "a5;"));
        Check.due("117 behind", 1, Check.told("a5;" + " ".repeat(117)));
        Check.due("117 between", 1, Check.told("a" + " ".repeat(117) + "5;"));
        Check.due("120 alone", 0, Check.told(" ".repeat(120)));
        for (int letter : new int[] {0, 9, 10, 11, 12, 13, 31, 33, 95, 133, 160}) {
            Check.due("no blank is " + letter, -13, Check.told("a5;" + (char) letter));
        }
    }

    private static void blanksBetweenNumbers() {
        Doc.says("Terms", "(needed only between two NUMBERS);");
        Check.due("none elsewhere", 4, Check.told("a5;w3 9;m2;l60;"));
        Check.due("none there", -13, Check.told("w39;"));
        Check.due("none there, of three digits", -11, Check.told("w345;"));
        Check.due("one within a number", -13, Check.told("a1 2;"));
        RoomBorn x = Check.town("w1 23;");
        Check.due("where it stands, LOW", 1, x.work(0, 0));
        Check.due("where it stands, HIGH", 23, x.work(0, 1));
        RoomBorn y = Check.town("w12 34;");
        Check.due("two digits, LOW", 12, y.work(0, 0));
        Check.due("two digits, HIGH", 34, y.work(0, 1));
    }

    private static void noItems() {
        Doc.says("Terms", "ITEMS (none, too),");
        Check.due("an empty text", 0, Check.told(""));
        Check.due("a blank", 0, Check.told(" "));
        RoomBorn x = Check.town("a5;w0 9;m6;l99;");
        Check.due("an empty text, later", 0, x.town());
        Check.due("no rooms", 0, x.count(0));
        Check.due("MOTHERS at first", 3, x.count(1));
        Check.due("no works", 0, x.count(2));
        Check.due("LIFE at first", 70, x.count(3));
    }

    private static void itemsAreEnded() {
        Doc.says("Terms", "each ended by ; :");
        Check.due("ended", 2, Check.told("a5;a6;"));
        Check.due("the last is not", -15, Check.told("a5;a6"));
        Check.due("the first is not", -12, Check.told("a5a6;"));
        Check.due("the first is not, by a blank", -13, Check.told("a5 a6;"));
        Check.due("ended twice", -13, Check.told("a5;;"));
        Check.due("no item is ended", -10, Check.told(";"));
        Check.due("ended too early", -11, Check.told("a;"));
        Check.due("ended too early, w", -12, Check.told("w5;"));
    }

    private static void whatItemsTell() {
        Doc.says("Terms", "a N (the next ROOM) ; w L H (the next WORK) ; m N (MOTHERS), l N (LIFE;");
        RoomBorn x = Check.town("w7 8;a30;l40;a20;w1 2;m5;a10;");
        int[] old = {30, 20, 10};
        for (int r = 0; r < 3; r++) {
            Check.due("room " + r, old[r], x.room(r, 0));
        }
        Check.due("three rooms", -1, x.room(3, 0));
        Check.due("work 0, LOW", 7, x.work(0, 0));
        Check.due("work 0, HIGH", 8, x.work(0, 1));
        Check.due("work 1, LOW", 1, x.work(1, 0));
        Check.due("work 1, HIGH", 2, x.work(1, 1));
        Check.due("two works", -1, x.work(2, 0));
        Check.due("MOTHERS", 5, x.count(1));
        Check.due("LIFE", 40, x.count(3));
        Check.due("three numbers", -15, Check.told("w1 2 3;"));
        Check.due("two numbers of a", -13, Check.told("a1 2;"));
        Check.due("two numbers of m", -13, Check.told("m1 2;"));
        Check.due("two numbers of l", -14, Check.told("l10 20;"));
    }

    private static void onceAtMost() {
        Doc.says("Terms", "once at most each).");
        Check.due("m once, l once", 2, Check.told("m2;l20;"));
        Check.due("m twice", -13, Check.told("m2;m2;"));
        Check.due("l twice", -14, Check.told("l20;l20;"));
        Check.due("m twice, apart", -20, Check.told("m2;l20;a5;m3;"));
        RoomBorn x = Check.town("m2;l20;");
        Check.type(x, "m4;l40;");
        Check.due("once in each text", 2, x.town());
        Check.due("MOTHERS by the later", 4, x.count(1));
        Check.due("LIFE by the later", 40, x.count(3));
        Check.type(x, "m5;m5;");
        Check.due("a fault", -13, x.town());
        x.clear();
        Check.type(x, "m5;l50;");
        Check.due("once behind a fault", 2, x.town());
    }

    private static void tokens() {
        Doc.says("Terms", "TOKENS are the letters a, w, m, l, NUMBERS and ; .");
        String[] items = {"a5;", "w1 2;", "m2;", "l20;"};
        for (String item : items) {
            Check.due(item, 1, Check.told(item));
            String other = item.toUpperCase();
            Check.due(other, -10, Check.told(other));
        }
        for (int letter = 'a'; letter <= 'z'; letter++) {
            boolean begins = letter == 'a' || letter == 'm';
            Check.due((char) letter + "2;", begins ? 1 : "wl".indexOf(letter) < 0 ? -10 : letter == 'w' ? -12 : -11,
                Check.told((char) letter + "2;"));
        }
        for (int number = 0; number <= 99; number++) {
            Check.due("room of " + number, number, Check.town("a" + number + ";").room(0, 0));
        }
        Check.due("a comma", -12, Check.told("a5,"));
        Check.due("a colon", -12, Check.told("a5:"));
    }

    private static void firstThatCannotStand() {
        Doc.says("Terms", "FAULT: the place of the first letter of the first TOKEN that can't stand there");
        Check.due("the first letter of a number", -13, Check.told("a  100;"));
        Check.due("the first letter, no blank", -12, Check.told("a a5;"));
        Check.due("the first of two: ; and a letter", -11, Check.told("a;x"));
        Check.due("the first of two: a letter and a number", -10, Check.told("x a100;"));
        Check.due("the first of two: a number and a letter", -11, Check.told("a100;x"));
        Check.due("the first of two: a letter's place and m again", -14, Check.told("m1;aa;m1;"));
        Check.due("a number where an item is due", -10, Check.told("5;"));
        Check.due("a number where ; is due", -13, Check.told("m2 7;"));
        Check.due("a letter where a number is due", -11, Check.told("ma;"));
        Check.due("a letter where HIGH is due", -12, Check.told("w1a2;"));
        Check.due("; where an item is due", -10, Check.told(";a5;"));
        Check.due("; where a number is due", -12, Check.told("a ;"));
        Check.due("; where HIGH is due", -12, Check.told("w1;"));
    }

    private static void oneTooMany() {
        Doc.says("Terms", "(a seventh a, a sixth w,");
        String six = "a1;a2;a3;a4;a5;a6;";
        Check.due("six", 6, Check.told(six));
        Check.due("a seventh", -28, Check.told(six + "a7;"));
        Check.due("a seventh, blanks ahead", -30, Check.told(six + "  a7;"));
        Check.due("a seventh, the last letter", -28, Check.told(six + "a"));
        Check.due("a seventh, its number could not stand either", -28, Check.told(six + "a100;"));
        String five = "w1 2;w1 2;w1 2;w1 2;w1 2;";
        Check.due("five", 5, Check.told(five));
        Check.due("a sixth", -35, Check.told(five + "w1 2;"));
        Check.due("a sixth, blanks ahead", -37, Check.told(five + "  w1 2;"));
        Check.due("a sixth, the last letter", -35, Check.told(five + "w"));
        Check.due("six and five", 11, Check.told(six + five));
        Check.due("a seventh behind five", -53, Check.told(six + five + "a7;"));
        Check.due("a sixth behind six", -53, Check.told(six + five + "w1 2;"));
        RoomBorn x = Check.town(six + five);
        Check.type(x, six + five);
        Check.due("as many in each text", 11, x.town());
    }

    private static void againOrBeyond() {
        Doc.says("Terms", "m, l again, HIGH less than LOW, a NUMBER beyond what it may be, too);");
        Check.due("m again", -14, Check.told("m1; m1;"));
        Check.due("m again, the last letter", -13, Check.told("m1;m"));
        Check.due("l again", -15, Check.told("l10; l10;"));
        Check.due("l again, the last letter", -14, Check.told("l10;l"));
        Check.due("HIGH less than LOW", -16, Check.told("w20   19;"));
        Check.due("HIGH less than LOW, no end", -14, Check.told("w20 19"));
        Check.due("HIGH less than LOW by letters, not by number", 1, Check.told("w9 10;"));
        Check.due("m 0", -12, Check.told("m 0;"));
        Check.due("m 1", 1, Check.told("m 1;"));
        Check.due("m 6", 1, Check.told("m 6;"));
        Check.due("m 7", -12, Check.told("m 7;"));
        Check.due("m 10", -12, Check.told("m 10;"));
        Check.due("l 9", -12, Check.told("l 9;"));
        Check.due("l 10", 1, Check.told("l 10;"));
        Check.due("l 99", 1, Check.told("l 99;"));
        Check.due("a 0", 1, Check.told("a 0;"));
        Check.due("a 99", 1, Check.told("a 99;"));
    }

    private static void otherLetters() {
        Doc.says("Terms", "of any other letter,");
        for (int letter = 0; letter <= 255; letter++) {
            char c = (char) letter;
            if ("awml; 0123456789".indexOf(c) < 0) {
                Check.due(letter + " alone", -10, Check.told("" + c));
                Check.due(letter + " behind blanks", -12, Check.told("  " + c));
                Check.due(letter + " where a number is due", -11, Check.told("a" + c + "5;"));
                Check.due(letter + " where HIGH is due", -13, Check.told("w5 " + c + ";"));
                Check.due(letter + " behind a number", -12, Check.told("m2" + c + ";"));
                Check.due(letter + " behind an item", -13, Check.told("m2;" + c));
            }
        }
    }

    private static void numbersAbove99() {
        Doc.says("Terms", "a NUMBER above 99 or with a 0 ahead of others, that TOKEN's;");
        String[] items = {"a ", "w ", "w5 ", "l ", "m "};
        String[] numbers = {"100", "101", "999", "1000", "00", "01", "010", "099", "000", "4294967297", "4294967306",
            "18446744073709551626", "10000000000000000000000000000000000000000000000000000000000000"};
        for (String item : items) {
            for (String number : numbers) {
                Check.due(item + number, -10 - item.length(), Check.told(item + number + (item.equals("w ") ? " 99;" : ";")));
                Check.due(item + number + ", no end", -10 - item.length(), Check.told(item + number));
            }
        }
        Check.due("where no number is due", -11, Check.told(" 100"));
        Check.due("where no number is due, 00", -13, Check.told("a5 00;"));
        Check.due("99", 1, Check.told("a99;"));
        Check.due("0 alone", 1, Check.told("a0;"));
        Check.due("0 behind others", 1, Check.told("a90;"));
        Check.due("0 alone, twice", 1, Check.told("w0 0;"));
    }

    private static void endsTooEarly() {
        Doc.says("Terms", "the text's length, if it ends too early.");
        String text = "a12;w3 45;m2;l60;";
        // The 15 first letters end by l6, and 6 is less than LIFE may be: that number's place.
        int[] due = {0, -11, -12, -13, 1, -15, -16, -17, -18, -19, 2, -21, -22, 3, -24, -24, -26, 4};
        for (int length = 0; length <= text.length(); length++) {
            String part = text.substring(0, length);
            Check.due("of " + length, due[length], Check.told(part));
            boolean early = due[length] == -10 - length;
            Check.due("of " + length + " and two blanks", early ? due[length] - 2 : due[length], Check.told(part + "  "));
        }
        RoomBorn x = new RoomBorn();
        Check.type(x, "a5");
        Check.due("too early", -12, x.town());
        x.type(';');
        Check.due("gone on with", 1, x.town());
        Check.type(x, "w1 2345");
        x.clear();
        Check.type(x, "w1 2");
        Check.due("too early, though there were letters behind", -14, x.town());
        x.type(';');
        Check.due("gone on with", 1, x.town());
        Check.type(x, "a5");
        Check.due("too early, though a town was told of more", -12, x.town());
        Check.due("all 120, the last a number", -130, Check.told(" ".repeat(117) + "a55"));
    }
}
