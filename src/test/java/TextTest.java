/** Promises 17 to 20: the tape, texts and their faults, the rule, what it says. */
final class TextTest {
    private static final int BAD = FloodCity.BAD, FULL = FloodCity.FULL;
    private static final Due due = new Due("TextTest");

    public static void main(String[] args) {
        feeding();
        tapeFull();
        textsFull();
        faults();
        nothingBehindTheTape();
        openOnes();
        forcing();
        worths();
        facts();
        saysRefused();
        due.end();
    }

    private static void feeding() {
        FloodCity c = new FloodCity();
        due.is("feed 0", c.feed(0, 1), BAD);
        due.is("feed 9", c.feed(9, 1), BAD);
        due.is("feed -1", c.feed(-1, 1), BAD);
        due.is("tape", c.count(14), 0);
        due.is("feed 1", c.feed(1, -1L), 1);
        due.is("feed 8", c.feed(8, -1L), 9);
        due.is("tape then", c.count(14), 9);
        due.is("bytes of 255 begin nothing", c.text(), -100);
        due.is("tape is empty by a fault", c.count(14), 0);
        due.is("the lowest first, the rest left", c.feed(2, 0x6f6e6568L), 2);
        due.is("so it is a word too short", c.text(), -100);
        due.is("heed", c.feed(4, 0x7777777764656568L), 4);
        due.is("then it ends too early", c.text(), -104);
    }

    private static void tapeFull() {
        FloodCity c = new FloodCity();
        for (int i = 1; i <= 20; i++) {
            due.is("feed to " + 8 * i, c.feed(8, 0x2020202020202020L), 8 * i);
        }
        due.is("feed 161st", c.feed(1, 32), FULL);
        due.is("feed full, BAD first", c.feed(9, 32), BAD);
        due.is("tape", c.count(14), 160);
        due.is("blanks to the end", c.text(), -260);
        Due.feedAll(c, "heed 1 ; stop 2 ;" + " ".repeat(135));
        due.is("tape of 152", c.count(14), 152);
        due.is("seven more", c.feed(7, 0x20202020202020L), 159);
        due.is("two are too many", c.feed(2, 0x2020), FULL);
        due.is("one fits", c.feed(1, 32), 160);
        due.is("160 bytes are a text", c.text(), 1);
    }

    private static void textsFull() {
        FloodCity c = new FloodCity();
        due.is("texts at first", c.count(13), 1);
        due.is("empty tape", c.text(), -100);
        for (int i = 1; i < 6; i++) {
            due.is("text " + i, Due.textOf(c, "heed " + i + ";stop 0;"), i);
            due.is("tape is empty", c.count(14), 0);
        }
        due.is("texts", c.count(13), 6);
        due.is("feed a 7th", Due.feedAll(c, "heed @"), 6);
        due.is("text 7th, ahead of its fault", c.text(), FULL);
        due.is("tape stays", c.count(14), 6);
    }

    private static void faults() {
        String[] faulty = {"^", "   ^", "^stop 1;", "heed ^;", "heed 1 ^stop 0;", "heed 1; ^", "heed 1; ^heed 0;",
            "heed 1; stop ^;", "heed 1; stop 0^", "heed 1; stop 0; ^;", "heed 1; stop 0; ^x", "heed 1; stop 0; ^@",
            "^heeds 1; stop 0;", "heed ^sinc; stop 0;", "heed ^sincewind; stop 0;", "heed ^10000; stop 0;",
            "heed ^00001; stop 0;", "heed 1 ^1; stop 0;", "heed 1 ^since; stop 0;", "heed 12^since; stop 0;",
            "heed 1 + ^; stop 0;", "heed 1 + ^+ 1; stop 0;", "heed 1 < 2 ^< 3; stop 0;", "heed 1 = 2 ^= 3; stop 0;",
            "heed 1 < 2 ^= 3; stop 0;", "heed 1 + ^not 1; stop 0;", "heed 1 < ^not 1; stop 0;",
            "heed - ^not 1; stop 0;", "heed not ^; stop 0;", "heed not ^or 1; stop 0;", "heed 1 or ^; stop 0;",
            "heed 1 and ^or 1; stop 0;", "heed (^); stop 0;", "heed (1^; stop 0;", "heed 1^); stop 0;",
            "heed (1 ^heed); stop 0;", "heed ^stop; stop 0;", "heed 1 ^/ 2; stop 0;", "heed 1 ^> 2; stop 0;",
            "heed ^Since; stop 0;", "^Heed 1; stop 0;", "heed 1^\t; stop 0;", "heed 1^\r; stop 0;",
            "heed 1 ^, 2; stop 0;", "heed ^'1; stop 0;", "heed ^.1; stop 0;", "heed 1 ^: stop 0;", "heed ^{1}; stop 0;",
            "heed ^`1; stop 0;", "heed 1 * ^; stop 0;", "heed 1 ^not 2; stop 0;", "heed (1 < 2) < 3 ^< 4; stop 0;",
            "heed 1; stop 0; ^heed 1; stop 0;", "heed 1 ^(2); stop 0;", "heed 1 * ^* 2; stop 0;",
            "heed ^\u00e9; stop 0;", "heed ^* 1; stop 0;", "heed ^= 1; stop 0;", "heed 1; ^; stop 0;", "heed^",
            "^weed 1; stop 0;", "heed ^mince; stop 0;", "heed ^heed; stop 0;", "^since 1; stop 0;",
            "heed 1 ^for 2; stop 0;", "heed ^hot 1; stop 0;", "heed since^"};
        for (String marked : faulty) {
            int place = marked.indexOf('^');
            String text = marked.substring(0, place) + marked.substring(place + 1);
            due.is("text \"" + marked + "\"", Due.textOf(new FloodCity(), text), -100 - place);
        }
        String[] right = {"heed 1;stop 0;", "heed\n1\n;\nstop\n0\n;\n", "  heed 9999 ; stop 0000 ;  ", "heed-1;stop(0);",
            "heed not not 1; stop not 1 = 2;", "heed 1 or 2 and not 3 < 4; stop 1;", "heed - - 1 - - 1; stop 1;",
            "heed since + height + wind + left + crowd + zone; stop 1;", "heed(not 1)+2;stop(1<2)<3;"};
        for (String text : right) {
            due.is("text \"" + text + "\"", Due.textOf(new FloodCity(), text), 1);
        }
    }

    /** What an earlier tape held behind the end of a later one is no part of it. */
    private static void nothingBehindTheTape() {
        FloodCity c = new FloodCity();
        due.is("a long word", Due.textOf(c, "heedheedheed"), -100);
        due.is("a short one in its place", Due.textOf(c, "heed"), -104);
        due.is("a long number", Due.textOf(c, "heed 12345"), -105);
        due.is("a short one in its place", Due.textOf(c, "heed 1234"), -109);
        due.is("blanks", Due.textOf(c, "heed 1       "), -113);
        due.is("a text that ends ahead of them", Due.textOf(c, "heed 1"), -106);
        due.is("a long text", Due.textOf(c, "heed 1; stop 0; ;"), -116);
        due.is("a right one in its place", Due.textOf(c, "heed 1; stop 0;"), 1);
    }

    /** At most five of ( not - are open at once; what has ended is open no more. */
    private static void openOnes() {
        due.is("5 (", Due.textOf(new FloodCity(), "heed (((((1))))); stop 0;"), 1);
        due.is("6 (", Due.textOf(new FloodCity(), "heed ((((((1)))))); stop 0;"), -110);
        due.is("5 -", Due.textOf(new FloodCity(), "heed -----1; stop 0;"), 1);
        due.is("6 -", Due.textOf(new FloodCity(), "heed ------1; stop 0;"), -110);
        due.is("5 not", Due.textOf(new FloodCity(), "heed not not not not not 1; stop 0;"), 1);
        due.is("6 not", Due.textOf(new FloodCity(), "heed not not not not not not 1; stop 0;"), -125);
        due.is("mixed 5", Due.textOf(new FloodCity(), "heed not (-(-1)); stop 0;"), 1);
        due.is("mixed 6", Due.textOf(new FloodCity(), "heed not (-(-(-1))); stop 0;"), -113);
        due.is("- ends with its ONE", Due.textOf(new FloodCity(), "heed -1 + (((((2))))); stop 0;"), 1);
        due.is("- ends ahead of *", Due.textOf(new FloodCity(), "heed -1 * (((((2))))); stop 0;"), 1);
        due.is("not goes on behind a sum", Due.textOf(new FloodCity(), "heed not 1 + (((((2))))); stop 0;"), -117);
        due.is("not goes on behind <", Due.textOf(new FloodCity(), "heed not 1 < (((((2))))); stop 0;"), -117);
        due.is("not ends ahead of and", Due.textOf(new FloodCity(), "heed not 1 and (((((2))))); stop 0;"), 1);
        due.is("( ends with )", Due.textOf(new FloodCity(), "heed (1) + (((((2))))); stop (((((0)))));"), 1);
        due.is("- between is none of these", Due.textOf(new FloodCity(), "heed (((((1-2))))); stop 0;"), 1);
        due.is("- between, then ahead", Due.textOf(new FloodCity(), "heed (((((1--2))))); stop 0;"), -112);
    }

    private static void forcing() {
        FloodCity c = new FloodCity();
        c.zone(0, 0, 0);
        due.is("force 1", c.force(1), BAD);
        due.is("force -1", c.force(-1), BAD);
        due.is("force 0", c.force(0), 0);
        Due.textOf(c, "heed 5; stop 6;");
        due.is("the rule is as before", c.count(15), 0);
        due.is("heed of text 0", c.says(0, 0), 20);
        due.is("force text 1", c.force(1), 0);
        due.is("the rule", c.count(15), 1);
        due.is("heed of text 1", c.says(0, 0), 5);
        due.is("stop of text 1", c.says(0, 1), 6);
        due.is("force 2", c.force(2), BAD);
        due.is("a fault", Due.textOf(c, "heed 7; stop (;"), -114);
        due.is("changes no text", c.says(0, 0), 5);
        due.is("force text 0", c.force(0), 1);
        due.is("heed of text 0 again", c.says(0, 0), 20);
    }

    private static void worths() {
        Object[][] worths = {{"1 + 2 * 3", 7}, {"10 - 2 - 3", 5}, {"2 * 3 * 4", 24}, {"(1 + 2) * 3", 9}, {"- 2 * 3", -6},
            {"-(2 + 3)", -5}, {"1 - -1", 2}, {"7 or 0", 1}, {"0 or 0", 0}, {"0 or 5", 1}, {"7 and 9", 1}, {"7 and 0", 0},
            {"0 and 7", 0}, {"not 0", 1}, {"not 5", 0}, {"not not 5", 1}, {"not 1 = 2", 1}, {"1 < 2", 1}, {"2 < 1", 0},
            {"2 < 2", 0}, {"2 = 2", 1}, {"2 = 3", 0}, {"-1 < 0", 1}, {"1 or 1 and 0", 1}, {"(1 or 1) and 0", 0},
            {"not 0 and 0", 0}, {"1 + 1 < 3", 1}, {"1 < 2 + 3", 1}, {"(5)", 5}, {"0007", 7}, {"9999", 9999},
            {"9999 * 9999 * 9999 * 9999", 9999 * 9999 * 9999 * 9999}, {"-9999 * 9999 * 99", -9999 * 9999 * 99},
            {"(1 < 2) + (2 < 3)", 2}, {"-1 or 0", 1}, {"1 - 2 and 1", 1}, {"not - 1", 0}, {"3 - 2 * 2 + 1", 0}};
        for (Object[] w : worths) {
            FloodCity c = new FloodCity();
            c.zone(0, 0, 0);
            due.is("text of " + w[0], Due.textOf(c, "heed " + w[0] + "; stop 77;"), 1);
            due.is("text of stop " + w[0], Due.textOf(c, "heed 55; stop " + w[0] + ";"), 2);
            c.force(1);
            due.is("heed " + w[0], c.says(0, 0), (Integer) w[1]);
            due.is("stop beside " + w[0], c.says(0, 1), 77);
            c.force(2);
            due.is("stop " + w[0], c.says(0, 1), (Integer) w[1]);
            due.is("heed beside " + w[0], c.says(0, 0), 55);
        }
    }

    private static void facts() {
        FloodCity c = new FloodCity();
        c.zone(4, 10, 0);
        c.zone(8, 100, 3);
        due.is("text 1", Due.textOf(c, "heed since; stop height;"), 1);
        due.is("text 2", Due.textOf(c, "heed wind; stop left;"), 2);
        due.is("text 3", Due.textOf(c, "heed crowd; stop zone;"), 3);
        c.news(0, 2, 9, 0, 13);
        c.news(1, 2, 9, 0, 17);
        c.pass(1);
        c.call(1);
        c.pass(2);
        long[] want = {2, 8, 13, 56, 44, 1};
        for (int i = 0; i < 6; i++) {
            c.force(1 + i / 2);
            due.is("name " + i + " of zone 1", c.says(1, i % 2), want[i]);
        }
        c.truth(1);
        c.force(2);
        due.is("wind of the true track", c.says(1, 0), 17);
        c.force(1);
        due.is("since of a zone without a call", c.says(0, 0), 0);
        due.is("height of zone 0", c.says(0, 1), 4);
        c.call(0);
        due.is("since in the hour of the call", c.says(0, 0), 0);
    }

    private static void saysRefused() {
        FloodCity c = new FloodCity();
        due.is("says without zones", c.says(0, 0), FloodCity.NO);
        c.zone(0, 0, 0);
        due.is("says(1, 0)", c.says(1, 0), FloodCity.NO);
        due.is("says(-1, 0)", c.says(-1, 0), FloodCity.NO);
        due.is("says(0, 2)", c.says(0, 2), FloodCity.NO);
        due.is("says(0, -1)", c.says(0, -1), FloodCity.NO);
    }
}
