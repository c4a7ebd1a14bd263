import java.util.ArrayList;
import java.util.List;

/** The edges of ==== 4 and of promises 17 to 20. */
final class TextEdges {
    /** A right text and blanks: 152 bytes, so that eight more have room. */
    private static final String OF_152 = "heed 1; stop 2;" + " ".repeat(137);

    private final Edges edges;

    TextEdges(Edges edges) {
        this.edges = edges;
    }

    void hold() throws ReflectiveOperationException {
        tape();
        words();
        numbers();
        signs();
        blanks();
        everyByte();
        grammar();
        ints();
        faults();
        openBrackets();
        openNotAndMinus();
        names();
        feed();
        text();
        force();
        says();
    }

    /** Parts and what each comes to, as heed and as stop: a run for each. */
    private static String[] worths(Object... worths) {
        List<String> runs = new ArrayList<>();
        for (int i = 0; i < worths.length; i += 2) {
            runs.add("""
                zone(0, 0, 0) = 0 | text "heed @; stop 77;" = 1 | text "heed 55; stop @;" = 2 | force(1) = 0
                says(0, 0) = ? | says(0, 1) = 77 | force(2) = 1 | says(0, 0) = 55 | says(0, 1) = ?
                """.replace("@", (String) worths[i]).replace("?", "" + worths[i + 1]));
        }
        return runs.toArray(new String[0]);
    }

    private void tape() throws ReflectiveOperationException {
        String held = "A TEXT is read from THE TAPE (160 bytes at most).";
        edges.hold("==== 4", held, "feed \"" + OF_152 + "\" = 152 | feed(8, 2314885530818453536) = 160 | "
            + "feed(1, 32) = FULL | count(14) = 160 | text() = 1",
            "feed \"" + OF_152 + "\" = 152 | feed(7, 9042521604759584) = 159 | feed(2, 8224) = FULL | "
                + "count(14) = 159 | feed(1, 32) = 160 | text() = 1");
        // The last byte of a full tape is read.
        edges.hold("==== 4", held, "feed \"" + OF_152 + "\" = 152 | feed \"       ;\" = 160 | text() = -259",
            "fault \"heed 1;" + " ".repeat(147) + "stop 1^\"", "feed \"heed" + " ".repeat(152)
                + "\" = 156 | feed \"1234\" = 160 | text() = -260",
            "text \"heed 1;" + " ".repeat(146) + "stop 1;\" = 1");
    }

    private void words() throws ReflectiveOperationException {
        edges.hold("==== 4", "TOKENS, each as long as can be: WORDS (a .. z)", """
            fault "^heeds 1; stop 0;" | fault "heed ^zones; stop 0;" | fault "heed ^windwind; stop 0;"
            fault "heed ^orand; stop 0;" | fault "heed 1 ^andnot 1; stop 0;" | fault "heed ^a; stop 0;"
            fault "heed ^z; stop 0;" | fault "heed zone^`; stop 0;" | fault "heed zone^{; stop 0;"
            fault "heed ^Zone; stop 0;" | fault "heed ^zOne; stop 0;" | fault "heed zone^A; stop 0;"
            fault "heed zone^Z; stop 0;" | fault "^Heed 1; stop 0;" | fault "heed zone^2; stop 0;"
            text "heed zone; stop zone;" = 1 | text "heed zone*2or zone;stop not zone=1;" = 2
            """);
        edges.hold("==== 4", "NAMES are since height wind left crowd zone; heed, stop, or, and, not are KEYS.", """
            text "heed since + height + wind; stop left + crowd + zone;" = 1 | text "heed 1 or 2 and not 3; stop 0;" = 2
            fault "heed ^name; stop 0;" | fault "heed ^water; stop 0;" | fault "heed ^home; stop 0;"
            fault "heed ^ill; stop 0;" | fault "heed ^xor; stop 0;" | fault "heed 1 ^nor 1; stop 0;"
            fault "heed ^heed; stop 0;" | fault "heed ^stop; stop 0;" | fault "heed ^or; stop 0;"
            fault "heed ^and; stop 0;" | fault "heed 1 ^since; stop 0;" | fault "^since 1; stop 0;"
            fault "heed 1; ^zone 0;" | fault "heed ^sinc; stop 0;" | fault "heed ^ince; stop 0;"
            fault "heed ^hand 1; stop 0;" | fault "heed ^no 1; stop 0;" | fault "heed ^knot 1; stop 0;"
            fault "heed 1 ^o 1; stop 0;" | fault "heed 1 ^an 1; stop 0;"
            """, """
            # one letter of each is another one: the first, the last
            fault "heed ^mince; stop 0;" | fault "heed ^weight; stop 0;" | fault "heed ^kind; stop 0;"
            fault "heed ^weft; stop 0;" | fault "heed ^drowd; stop 0;" | fault "heed ^bone; stop 0;"
            fault "^weed 1; stop 0;" | fault "heed 1; ^atop 0;" | fault "heed 1 ^ar 1; stop 0;"
            fault "heed 1 ^end 1; stop 0;" | fault "heed ^hot 1; stop 0;" | fault "heed ^sincd; stop 0;"
            fault "heed ^heighs; stop 0;" | fault "heed ^wine; stop 0;" | fault "heed ^lefs; stop 0;"
            fault "heed ^crowe; stop 0;" | fault "heed ^zond; stop 0;" | fault "^heel 1; stop 0;"
            fault "heed 1; ^stow 0;" | fault "heed 1 ^of 1; stop 0;" | fault "heed 1 ^ant 1; stop 0;"
            fault "heed ^now 1; stop 0;"
            """);
    }

    private void numbers() throws ReflectiveOperationException {
        edges.hold("==== 4", "NUMBERS (as many digits as stand there, 4 at most)", """
            zone(0, 0, 0) = 0 | text "heed 0; stop 9;" = 1 | text "heed 9999; stop 0000;" = 2
            text "heed 10; stop 0012;" = 3 | text "heed1234;stop5678;" = 4 | text "heed 0987or 6; stop 1and 2;" = 5
            force(1) = 0 | says(0, 0) = 0 | says(0, 1) = 9 | force(2) = 1 | says(0, 0) = 9999 | says(0, 1) = 0
            force(3) = 2 | says(0, 0) = 10 | says(0, 1) = 12 | force(4) = 3 | says(0, 0) = 1234 | says(0, 1) = 5678
            """, """
            fault "heed ^10000; stop 0;" | fault "heed ^00000; stop 0;" | fault "heed ^00001; stop 0;"
            fault "heed ^99999; stop 0;" | fault "heed ^12345678901234567890; stop 0;" | fault "heed 1; stop ^00001;"
            fault "heed 12 ^34; stop 0;" | fault "heed 1; ^12345 0;" | fault "heed ^4294967297; stop 0;"
            fault "heed ^12345" | text "heed 1234; stop 0001;" = 1
            """);
    }

    private void signs() throws ReflectiveOperationException {
        edges.hold("==== 4", "SIGNS ( ) ; + - * < =", """
            text "heed (1)+2-3*4<5; stop 6=7;" = 1 | fault "heed 1 ^/ 2; stop 0;" | fault "heed 1 ^> 2; stop 0;"
            fault "heed 1 ^, 2; stop 0;" | fault "heed 1 ^. 2; stop 0;" | fault "heed 1 ^: stop 0;"
            fault "heed ^'1; stop 0;" | fault "heed 1 ^! 2; stop 0;" | fault "heed 1 <^= 2; stop 0;"
            fault "heed 1 =^= 2; stop 0;" | fault "heed 1 <^< 2; stop 0;" | fault "heed ^[1]; stop 0;"
            """);
    }

    private void blanks() throws ReflectiveOperationException {
        edges.hold("==== 4", "blanks (32, 10) may stand between.", """
            text "heed1;stop0;" = 1 | text "  heed  1  ;  stop  0  ;  " = 2
            text "%0Aheed%0A1%0A;%0Astop%0A0%0A;%0A" = 3 | text "heed-1;stop(0);" = 4
            text " %0A %0Aheed %0A 1; stop 0;%0A%0A" = 5
            """, """
            fault "^he ed 1; stop 0;" | fault "heed 1 ^2; stop 0;" | fault "heed ^zo ne; stop 0;"
            fault "heed 1%0A^2; stop 0;" | fault "heed^%091; stop 0;" | fault "heed^%0B1; stop 0;"
            fault "heed^%0D1; stop 0;" | fault "heed^%001; stop 0;" | fault "heed^%1F1; stop 0;"
            fault "heed^%211; stop 0;" | fault "heed^%A01; stop 0;" | fault "heed^%8A1; stop 0;"
            """);
    }

    /** Each of the 256 bytes at three places where few may stand. */
    private void everyByte() throws ReflectiveOperationException {
        for (int b = 0; b < 256; b++) {
            boolean isBlank = b == 32 || b == 10;
            boolean isDigit = b >= '0' && b <= '9';
            boolean isJoiner = b == '+' || b == '-' || b == '*' || b == '<' || b == '=';
            boolean isOpener = b == '(' || b == '-';
            String first = isBlank ? "text \"@heed 1; stop 0;\" = 1" : "fault \"^@heed 1; stop 0;\"";
            String one = isDigit ? "text \"heed @; stop 0;\" = 1"
                : isBlank || isOpener ? "fault \"heed @^; stop 0;\"" : "fault \"heed ^@; stop 0;\"";
            String between = isDigit || isJoiner ? "text \"heed 1@1; stop 0;\" = 1"
                : isBlank ? "fault \"heed 1@^1; stop 0;\"" : b == ';' ? "fault \"heed 1;^1; stop 0;\""
                : "fault \"heed 1^@1; stop 0;\"";
            String sign = String.format("%%%02X", b);
            edges.hold("==== 4", "also of a byte that begins none", first.replace("@", sign), one.replace("@", sign),
            between.replace("@", sign));
        }
    }

    private void grammar() throws ReflectiveOperationException {
        edges.hold("==== 4", "TEXT: heed E ; stop E ;", """
            text "heed 1; stop 0;" = 1 | fault "^stop 0; heed 1;" | fault "^1; stop 0;" | fault "^; stop 0;"
            fault "heed ^; stop 0;" | fault "heed 1 ^stop 0;" | fault "heed 1; ^0;" | fault "heed 1; ^heed 0;"
            fault "heed 1; ^; stop 0;" | fault "heed 1; stop ^;" | fault "heed 1; stop 0; ^;"
            fault "heed 1; stop 0; ^heed 1; stop 0;" | fault "heed 1; stop 0; ^1" | fault "heed 1; stop 0; ^)"
            fault "heed ^heed 1; stop 0;" | fault "heed 1; stop ^stop 0;" | fault "heed 1; stop 0^"
            """);
        edges.hold("==== 4", "E: AND { or AND }.", worths("7", 7, "0 or 0", 0, "0 or 0 or 4", 1, "4 or 0 or 0", 1,
            "1 or 1 and 0", 1));
        edges.hold("==== 4", "E: AND { or AND }.", "fault \"heed ^or 1; stop 0;\" | "
            + "fault \"heed 1 or ^; stop 0;\" | fault \"heed 1 or ^or 1; stop 0;\"");
        edges.hold("==== 4", "AND: NOT { and NOT }.", worths("1 and 2 and 3", 1, "1 and 2 and 0", 0, "0 and 1 and 1",
            0, "0 and 0 or 1", 1,
            "(1 or 1) and 0", 0));
        edges.hold("==== 4", "AND: NOT { and NOT }.", "fault \"heed ^and 1; stop 0;\" | "
            + "fault \"heed 1 and ^; stop 0;\" | fault \"heed 1 and ^and 1; stop 0;\"");
        edges.hold("==== 4", "NOT: not NOT, or SUM, perhaps < or = and a SUM.",
            worths("not 7", 0, "not not 7", 1, "not 1 = 2", 1, "not 2 < 1 and 0", 0,
            "1 + 1 = 2", 1, "3 < 2 + 2", 1, "not 0 + 1", 0, "(1 < 2) < 3", 1, "not 5 < 6 or 0", 0));
        edges.hold("==== 4", "NOT: not NOT, or SUM, perhaps < or = and a SUM.", """
            fault "heed 1 < 2 ^< 3; stop 0;" | fault "heed 1 = 2 ^= 3; stop 0;" | fault "heed 1 < 2 ^= 3; stop 0;"
            fault "heed 1 = 2 ^< 3; stop 0;" | fault "heed 1 < ^; stop 0;" | fault "heed ^< 1; stop 0;"
            fault "heed ^= 1; stop 0;" | fault "heed 1 < ^not 1; stop 0;" | fault "heed 1 + ^not 1; stop 0;"
            fault "heed 1 ^not 1; stop 0;" | fault "heed not ^; stop 0;" | fault "heed 1 = ^= 1; stop 0;"
            fault "heed not ^or 1; stop 0;" | fault "heed 1 * ^not 1; stop 0;" | fault "heed not 1 < 2 ^< 3; stop 0;"
            """);
        edges.hold("==== 4", "SUM: TERM { + or - TERM }.", worths("9 - 4 - 3", 2, "9 - 4 + 3", 8, "9 - (4 + 3)", 2,
            "1 + 2 + 3 + 4", 10, "9 - 2 * 3", 3));
        edges.hold("==== 4", "SUM: TERM { + or - TERM }.", """
            fault "heed 1 + ^; stop 0;" | fault "heed 1 - ^; stop 0;" | fault "heed ^+ 1; stop 0;"
            fault "heed 1 + ^+ 1; stop 0;" | fault "heed 1 - ^+ 1; stop 0;"
            """);
        edges.hold("==== 4", "TERM: ONE { * ONE }.", worths("2 * 3 * 4", 24, "2 + 3 * 4", 14, "2 * 3 + 4", 10,
            "2 * -3", -6, "(2 + 3) * 4", 20));
        edges.hold("==== 4", "TERM: ONE { * ONE }.", "fault \"heed 1 * ^; stop 0;\" | "
            + "fault \"heed ^* 1; stop 0;\" | fault \"heed 1 * ^* 1; stop 0;\"");
        edges.hold("==== 4", "ONE: a NUMBER, a NAME, - ONE, ( E ).", worths("- 2 * 3", -6, "- - 2", 2, "2 - - 3", 5,
            "-(2 - 3) * 4", 4, "- 2 + 3", 1,
            "(1 or 0) + (2 < 1)", 1, "((7))", 7, "zone", 0, "(not 0) + 1", 2, "-0", 0));
        edges.hold("==== 4", "ONE: a NUMBER, a NAME, - ONE, ( E ).", """
            fault "heed (^); stop 0;" | fault "heed (1^; stop 0;" | fault "heed 1^); stop 0;"
            fault "heed 1 ^(2); stop 0;" | fault "heed ^); stop 0;" | fault "heed -^; stop 0;"
            fault "heed - ^not 1; stop 0;" | fault "heed ((1)^; stop 0;" | fault "heed (1) ^2; stop 0;"
            fault "heed - ^+ 1; stop 0;" | fault "heed (1 ^zone); stop 0;" | fault "heed (1^;); stop 0;"
            """);
    }

    private void ints() throws ReflectiveOperationException {
        // 2 to the power of 31, a product of what may be written.
        String top = "256 * 256 * 256 * 128";
        edges.hold("==== 4", "An E is an int (32 bits, wrapping)", worths(top, "MIN", top + " - 1", "MAX", "-(" + top
            + ")", "MIN", top + " - 1 + 1", "MIN",
            "-(" + top + " - 1)", -2147483647, "-(" + top + " - 1) - 1", "MIN", "-(" + top + " - 1) - 2", "MAX",
            "256 * 256 * 256 * 256", 0,
            "256 * 256 * 256 * 256 + 5", 5, "9999 * 9999 * 21", 2099580021, "9999 * 9999 * 22", -2095407274,
            "-9999 * 9999 * 22", 2095407274,
            "(" + top + ") * 2", 0, "(" + top + " - 1) * (" + top + " - 1)", 1));
        edges.hold("==== 4", "of or, and, not, <, = 1 or 0 (what is not 0 is true).",
            worths("5 or 0", 1, "0 or 5", 1, "2 or 1", 1, "0 or 0", 0, "-1 or 0", 1,
            "2 and 1", 1, "5 and 0", 0, "0 and 5", 0, "-1 and -2", 1, "not 0", 1, "not 1", 0, "not 2", 0, "not -1", 0,
            "1 < 2", 1, "2 < 2", 0, "2 < 1", 0,
            "-1 < 0", 1, "0 < -1", 0, "2 = 2", 1, "2 = 3", 0, "-1 = 1", 0, "0 = 0", 1,
            "(1 < 2) + (3 = 3) + (5 or 0) + (6 and 7) + (not 0)", 5));
        edges.hold("==== 4", "of or, and, not, <, = 1 or 0 (what is not 0 is true).",
            worths(top + " < 0", 1, top + " - 1 < " + top, 0, "-2 < " + top + " - 1", 1,
            top + " or 0", 1, top + " and " + top, 1, "not " + top, 0, "not 256 * 256 * 256 * 256", 1, top + " = -("
                + top + ")", 1,
            "256 * 256 * 256 * 256 or 0", 0, "1 and 256 * 256 * 256 * 256", 0));
    }

    private void faults() throws ReflectiveOperationException {
        edges.hold("==== 4", "FAULT: the place of the first byte of the first TOKEN that can't stand there", """
            fault "^stop" | fault " ^stop" | fault "%0A%0A^stop" | fault "heed ^stop stop"
            fault "heed 1; stop 0;    ^since + @" | fault "heed ^+ @" | fault "heed 1 + ^@ *"
            fault "heed ^; x 12345 @" | fault "heed ^12345 x ;;" | fault "heed 1 ^2 @" | fault "heed ^@ 12345"
            fault "heed ^x 12345" | count(14) = 0 | count(13) = 1
            """);
        edges.hold("==== 4", "(the text's size, if it ends too early)", """
            text() = -100 | fault " ^" | fault "%0A^" | fault "heed^" | fault "heed ^" | fault "heed 1^"
            fault "heed 1   ^" | fault "heed 1;^" | fault "heed 1; stop^" | fault "heed 1; stop 0^"
            fault "heed 1; stop 0 %0A ^" | fault "heed (^" | fault "heed (1^" | fault "heed (1)^" | fault "heed not^"
            fault "heed -^" | fault "heed 1 <^" | fault "heed 1 + ^" | fault "heed 1 *^" | fault "heed 1 or^"
            fault "heed 1 and ^" | fault "heed since^" | fault "heed 1; stop (((((^" | text "heed 1; stop 0;" = 1
            """);
        edges.hold("==== 4", "a WORD that is neither KEY nor NAME, a NUMBER that is too long", """
            fault "heed ^x" | fault "^x heed 1; stop 0;" | fault "heed 1 ^x" | fault "heed 1; stop 0; ^x"
            fault "heed 1 + ^sincesince; stop 0;" | fault "^hee" | fault "heed 1; ^sto" | fault "heed ^12345"
            fault "^12345" | fault "heed 1 ^23456" | fault "heed 1; stop 0; ^12345"
            """);
    }

    private void openBrackets() throws ReflectiveOperationException {
        edges.hold("==== 4", "a ( , a not, a - ahead of a ONE while 5 of these are open (a ( till its ) ,", """
            text "heed (((((1))))); stop 0;" = 1 | fault "heed (((((^(1)))))); stop 0;"
            text "heed 1; stop (((((0)))));" = 2 | fault "heed 1; stop (((((^(0))))));"
            text "heed (((((1))))) + (((((2))))); stop (((((3)))));" = 3 | fault "heed (((((^-1))))); stop 0;"
            fault "heed (((((^not 1))))); stop 0;" | fault "heed (((((^(" | fault "heed (((((1 and ^not 1))))); stop 0;"
            """, """
            # those that are closed are open no more
            text "heed (((((1) + 2) + 3) + 4) + 5) + (6); stop 0;" = 1
            text "heed (((((1)) + ((2)))) + ((((3))))); stop 0;" = 2 | fault "heed (((((1)) + ((^(2)))))); stop 0;"
            fault "heed (((((1)) + ((2)))) + ((((^(3)))))); stop 0;"
            text "heed (1) + (2) + (3) + (4) + (5) + (6) + (7); stop (((((1 - 2) < 3) = 4 or 5) and 6));" = 3
            """);
    }

    private void openNotAndMinus() throws ReflectiveOperationException {
        String held = "not and - till what they belong to ends).";
        edges.hold("==== 4", held, """
            text "heed -----1; stop 0;" = 1 | fault "heed -----^-1; stop 0;"
            text "heed not not not not not 1; stop 0;" = 2 | fault "heed not not not not not ^not 1; stop 0;"
            text "heed not (-(-1)); stop 0;" = 3 | fault "heed not (-(-^(1))); stop 0;"
            fault "heed not (-(-^-1)); stop 0;" | fault "heed (-(-(^not 1))); stop 0;"
            text "heed (-(-(1))); stop 0;" = 4
            """);
        edges.hold("==== 4", held, """
            # a - ends with its ONE; a - between two is none of these
            text "heed -----1 - -----1; stop -----1 * -----1;" = 1 | fault "heed -----1 - -----^-1; stop 0;"
            text "heed -1 + (((((2))))); stop -1 * (((((2)))));" = 2 | fault "heed -((((^(2))))); stop 0;"
            text "heed -1 < (((((2))))); stop 0;" = 3 | text "heed -(1) + -(2) + -(3) + -(4) + -(5) + -(6); stop 0;" = 4
            text "heed 1 - (((((2))))); stop (((((3 - 4)))));" = 5
            """, "fault \"heed (((((1 - ^-2))))); stop 0;\" | fault \"heed (((((^-1 - 2))))); stop 0;\" | "
                + "fault \"heed ((((-1 - (^(2)))))); stop 0;\"");
        edges.hold("==== 4", held, """
            # a not ends with its NOT: sums and < are in it, and and or are not
            fault "heed not 1 + ((((^(2))))); stop 0;" | fault "heed not 1 < ((((^(2))))); stop 0;"
            fault "heed not 1 = ((((^(2))))); stop 0;" | fault "heed not 1 * ((((^(2))))); stop 0;"
            text "heed not 1 + ((((2)))); stop not 1 < ((((2))));" = 1
            text "heed not 1 and (((((2))))); stop not 1 or (((((2)))));" = 2
            text "heed (not 1) + (((((2))))); stop 0;" = 3 | fault "heed not -1 + ((((^(2))))); stop 0;"
            text "heed not -1 + ((((2)))); stop 0;" = 4 | fault "heed not not 1 = (((^(2)))); stop 0;"
            text "heed not not not not not 1 and not not not not not 1; stop not not not not not 1 or not not not not not 1;" = 5
            """);
    }

    private void names() throws ReflectiveOperationException {
        edges.hold("==== 4", "Of a ZONE in an HOUR: since: HOURS since its CALL (0 in that HOUR)", """
            zone(0, 0, 0) = 0 | zone(0, 0, 0) = 1 | text "heed since; stop 0;" = 1 | force(1) = 0 | says(0, 0) = 0
            pass(3) = 3 | says(0, 0) = 0 | call(0) = 3 | says(0, 0) = 0
            pass(1) = 4 | says(0, 0) = 1 | says(1, 0) = 0
            pass(26) = 30 | says(0, 0) = 27 | end(60) = 30
            pass(30) = 60 | says(0, 0) = 57 | says(1, 0) = 0
            """);
        edges.hold("==== 4",
            "height; wind: WIND (of THE TRUE TRACK); left: AT HOME; crowd: how many are ON THE WAY there; zone: "
                + "its number.", """
            zone(0, 99999, 999) = 0 | zone(99, 0, 0) = 1 | zone(1, 5, 0) = 2 | zone(2, 0, 0) = 3 | zone(3, 0, 0) = 4
            zone(4, 0, 7) = 5 | text "heed height; stop wind;" = 1 | text "heed left; stop crowd;" = 2
            text "heed zone; stop 0;" = 3 | force(1) = 0 | says(0, 0) = 0 | says(1, 0) = 99 | says(0, 1) = 0
            news(1, 0, 61, 0, 99) = 0 | says(0, 1) = 0 | truth(1) = 0 | says(0, 1) = 99 | news(1, 1, 61, 0, 7) = 1
            says(0, 1) = 99 | force(2) = 1 | says(0, 0) = 99999 | says(1, 0) = 0 | says(0, 1) = 0 | truth(0) = 1
            call(0) = 0 | force(0) = 2
            pass(1) = 1 | force(2) = 0 | says(0, 0) = 80000 | says(0, 1) = 19999 | says(5, 0) = 0 | force(3) = 2
            says(0, 0) = 0 | says(5, 0) = 5
            """);
        edges.hold("==== 4", "TEXT 0, at first, and THE RULE, is: heed 20 + since * 10 ; stop 60 < wind ;", """
            zone(9, 0, 0) = 0 | count(15) = 0 | says(0, 0) = 20 | says(0, 1) = 0 | call(0) = 0 | says(0, 0) = 20
            pass(1) = 1 | says(0, 0) = 30
            pass(8) = 9 | says(0, 0) = 110 | news(0, 9, 61, 0, 60) = 0 | says(0, 1) = 0 | news(0, 9, 61, 0, 61) = 1
            says(0, 1) = 1 | text "heed 1; stop 2;" = 1 | says(0, 0) = 110 | force(1) = 0 | says(0, 0) = 1
            force(0) = 1 | says(0, 0) = 110 | says(0, 1) = 1
            """);
    }

    private void feed() throws ReflectiveOperationException {
        edges.hold("Promise 17",
            "The n lowest bytes of a number, the lowest first, come behind THE TAPE: how many it has.", """
            feed(1, -1) = 1 | feed(2, -1) = 3 | feed(3, -1) = 6 | feed(4, -1) = 10 | feed(5, -1) = 15 | feed(6, -1) = 21
            feed(7, -1) = 28 | feed(8, -1) = 36 | count(14) = 36 | text() = -100 | count(14) = 0
            # heed with bytes above it; a letter behind it; deeh
            feed(4, 8608480567411172712) = 4 | text() = -104 | feed(4, 1684366696) = 4 | feed(1, 32) = 5
            feed(1, 64) = 6 | text() = -105 | feed(4, 1751475556) = 4 | text() = -100 | feed(3, 1684366696) = 3
            text() = -100 | feed(4, 1684366696) = 4 | feed(1, 120) = 5 | text() = -100
            # -1, LMIN: the highest byte of eight
            feed(1, 32) = 1 | feed(8, LMIN) = 9 | text() = -101 | feed(8, 2314885530818453536) = 8 | feed(8, LMAX) = 16
            text() = -108
            """);
        edges.hold("Promise 17", "BAD: n is not 1 .. 8.", """
            feed(0, 32) = BAD | feed(9, 32) = BAD | feed(-1, 32) = BAD | feed(MIN, 32) = BAD | feed(MAX, 32) = BAD
            count(14) = 0 | feed(1, 32) = 1 | feed(8, 32) = 9 | feed(0, 32) = BAD | feed(9, 32) = BAD | count(14) = 9
            """);
        edges.hold("Promise 17", "FULL.", Edges.rows(1, 19, "feed(8, 2314885530818453536)") + """
            feed(8, 2314885530818453536) = 160 | feed(1, 32) = FULL | feed(8, 32) = FULL | feed(0, 32) = BAD
            feed(9, 32) = BAD | count(14) = 160 | text() = -260 | feed(8, 32) = 8
            """, Edges.rows(1, 19, "feed(8, 2314885530818453536)") + """
            feed(1, 64) = 153 | feed(8, 32) = FULL | count(14) = 153 | feed(7, 32) = 160 | feed(1, 32) = FULL
            text() = -252
            """, Edges.rows(1, 160, "feed(1, 32) = @") + "feed(1, 32) = FULL | count(14) = 160 | text() = -260 | "
                + "count(14) = 0");
    }

    private void text() throws ReflectiveOperationException {
        edges.hold("Promise 18",
            "THE TAPE, which is empty then (by a FAULT, too), is a TEXT: its number; -100 less the place of its "
                + "FAULT.", """
            text() = -100 | count(14) = 0 | count(13) = 1 | feed "heed 1; stop 0;" = 15 | text() = 1 | count(14) = 0
            text() = -100 | count(13) = 2 | feed "heed 1; stop @" = 14 | text() = -113 | count(14) = 0 | count(13) = 2
            feed "heed 2; " = 8 | count(14) = 8 | text "stop 0;" = 2 | count(13) = 3 | count(15) = 0 | fault "^x"
            text() = -100 | text "heed 3; stop 0;" = 3
            """, """
            # what stood on the tape ahead is no part of a later text
            fault "^heedheedheed" | fault "heed^" | fault "heed ^12345" | fault "heed 1234^"
            fault "heed 1            ^" | fault "heed 1^" | fault "heed 1; stop 0; ^;" | text "heed 1; stop 0;" = 1
            fault "heed since^" | fault "heed ^sinc"
            """, """
            # what a faulty text came to is no part of a later one
            zone(9, 0, 0) = 0 | fault "heed 1; stop not 2 ^@" | text "heed 1; stop 7;" = 1
            fault "heed 3 + 4 * 5 - 6;^;" | text "heed 8; stop 9;" = 2 | force(1) = 0 | says(0, 0) = 1 | says(0, 1) = 7
            force(2) = 1 | says(0, 0) = 8 | says(0, 1) = 9
            """,
            "fault \"heed 1;" + " ".repeat(152) + "^x\"", "feed \"heed 1;" + " ".repeat(153)
                + "\" = 160 | text() = -260 | count(14) = 0");
        String five = Edges.rows(1, 5, "text \"heed 1@; stop @;\" = @");
        edges.hold("Promise 18", "FULL (ahead of all): no TEXT more has room (THE TAPE stays).", five + """
            text() = FULL | count(13) = 6 | count(14) = 0 | feed "x" = 1 | text() = FULL | count(14) = 1
            feed "heed 1; stop 0;" = 16 | text() = FULL | count(14) = 16 | count(13) = 6 | force(5) = 0
            zone(0, 0, 0) = 0 | says(0, 0) = 15 | says(0, 1) = 5 | force(4) = 5 | says(0, 0) = 14
            """);
    }

    private void force() throws ReflectiveOperationException {
        String two = "zone(0, 0, 0) = 0 | text \"heed 1; stop 11;\" = 1 | text \"heed 2; stop 12;\" = 2\n";
        edges.hold("Promise 19", "A TEXT is THE RULE: which was.", two + """
            says(0, 0) = 20 | force(2) = 0 | says(0, 0) = 2 | says(0, 1) = 12 | force(2) = 2 | force(1) = 2
            says(0, 0) = 1 | says(0, 1) = 11 | count(15) = 1 | force(0) = 1 | says(0, 0) = 20 | count(15) = 0
            """);
        edges.hold("Promise 19", "BAD.", "force(1) = BAD | force(-1) = BAD | force(0) = 0", two + """
            force(-1) = BAD | force(3) = BAD | force(MIN) = BAD | force(MAX) = BAD | force(2) = 0 | force(3) = BAD
            force(-1) = BAD | count(15) = 2 | fault "^@" | force(3) = BAD
            """);
    }

    private void says() throws ReflectiveOperationException {
        edges.hold("Promise 20",
            "What a part (0 heed, 1 stop) of THE RULE comes to for a ZONE NOW (one without a CALL: since 0).", """
            zone(3, 0, 0) = 0 | zone(4, 0, 0) = 1 | text "heed 0 - since * 7; stop height * 100 + wind;" = 1
            force(1) = 0 | call(0) = 0 | news(0, 1, 2, 0, 55) = 0 | says(0, 0) = 0 | says(0, 1) = 300 | says(1, 1) = 400
            pass(1) = 1 | says(0, 0) = -7 | says(0, 1) = 355 | says(1, 0) = 0 | says(1, 1) = 455
            pass(1) = 2 | says(0, 0) = -14 | says(1, 0) = 0 | says(1, 1) = 400
            """);
        edges.hold("Promise 20", "NO: none such.", "says(0, 0) = NO | says(0, 1) = NO | says(-1, 0) = NO",
            Edges.rows(0, 5, "zone(0, 0, 0) = @ | says(@, 0) = 20") + """
            says(-1, 0) = NO | says(6, 0) = NO | says(MIN, 0) = NO | says(MAX, 0) = NO | says(5, -1) = NO
            says(5, 2) = NO | says(5, MIN) = NO | says(5, MAX) = NO | says(6, 2) = NO | says(0, 0) = 20 | says(5, 1) = 0
            """, "zone(0, 0, 0) = 0 | says(1, 0) = NO | says(1, 1) = NO | says(0, 1) = 0");
    }
}
